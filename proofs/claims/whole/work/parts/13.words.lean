set_option maxRecDepth 100000 in
theorem cls0 : j_cls 0 RX0 TX0 4 tyX0 := ⟨by decide, rfl, by decide +kernel, tyX0_ok, nmX0⟩
set_option maxRecDepth 100000 in
theorem cls1 : j_cls 1 RX1 TX1 6 tyX1 := ⟨by decide, rfl, by decide +kernel, tyX1_ok, nmX1⟩
set_option maxRecDepth 100000 in
theorem cls2 : j_cls 2 RX2 TX2 7 tyX2 := ⟨by decide, rfl, by decide +kernel, tyX2_ok, nmX2⟩
set_option maxRecDepth 100000 in
theorem cls3 : j_cls 3 RX3 TX3 3 tyX3 := ⟨by decide, rfl, by decide +kernel, tyX3_ok, nmX3⟩
set_option maxRecDepth 100000 in
theorem cls4 : j_cls 4 RX4 TX4 3 tyX4 := ⟨by decide, rfl, by decide +kernel, tyX4_ok, nmX4⟩
set_option maxRecDepth 100000 in
theorem cls5 : j_cls 5 RX5 TX5 6 tyX5 := ⟨by decide, rfl, by decide +kernel, tyX5_ok, nmX5⟩
set_option maxRecDepth 100000 in
theorem cls6 : j_cls 6 RX6 TX6 5 tyX6 := ⟨by decide, rfl, by decide +kernel, tyX6_ok, nmX6⟩
set_option maxRecDepth 100000 in
theorem cls7 : j_cls 7 RX7 TX7 5 tyX7 := ⟨by decide, rfl, by decide +kernel, tyX7_ok, nmX7⟩
set_option maxRecDepth 100000 in
theorem cls8 : j_cls 8 RX8 TX8 5 tyX8 := ⟨by decide, rfl, by decide +kernel, tyX8_ok, nmX8⟩
set_option maxRecDepth 100000 in
theorem cls9 : j_cls 9 RX9 TX9 14 tyX9 := ⟨by decide, rfl, by decide +kernel, tyX9_ok, nmX9⟩
set_option maxRecDepth 100000 in
theorem cls10 : j_cls 10 RX10 TX10 53 tyX10 := ⟨by decide, rfl, by decide +kernel, tyX10_ok, nmX10⟩
theorem w_oi : Cond.instanceMethod objectInit ∈ gtb := gtb_in (List.mem_of_getElem? (i := 129) (by decide +kernel)) rfl
theorem w_oc : Cond.code objectInit ⟨#[0xb1]⟩ 1 none ∈ gtb := gtb_in (List.mem_of_getElem? (i := 130) (by decide +kernel)) rfl
theorem wini_RX0 : Cond.initialized RX0 ∈ gtb := gtb_in (List.mem_of_getElem? (i := 115) (by decide +kernel)) rfl
theorem wini_RX1 : Cond.initialized RX1 ∈ gtb := gtb_in (List.mem_of_getElem? (i := 114) (by decide +kernel)) rfl
theorem wini_RX2 : Cond.initialized RX2 ∈ gtb := gtb_in (List.mem_of_getElem? (i := 112) (by decide +kernel)) rfl
theorem wini_RX3 : Cond.initialized RX3 ∈ gtb := gtb_in (List.mem_of_getElem? (i := 111) (by decide +kernel)) rfl
theorem wini_RX4 : Cond.initialized RX4 ∈ gtb := gtb_in (List.mem_of_getElem? (i := 113) (by decide +kernel)) rfl
theorem wini_RX5 : Cond.initialized RX5 ∈ gtb := gtb_in (List.mem_of_getElem? (i := 110) (by decide +kernel)) rfl
theorem wini_RX6 : Cond.initialized RX6 ∈ gtb := gtb_in (List.mem_of_getElem? (i := 117) (by decide +kernel)) rfl
theorem wini_RX7 : Cond.initialized RX7 ∈ gtb := gtb_in (List.mem_of_getElem? (i := 119) (by decide +kernel)) rfl
theorem wini_RX8 : Cond.initialized RX8 ∈ gtb := gtb_in (List.mem_of_getElem? (i := 109) (by decide +kernel)) rfl
theorem wini_RX9 : Cond.initialized RX9 ∈ gtb := gtb_in (List.mem_of_getElem? (i := 108) (by decide +kernel)) rfl
theorem wini_RX10 : Cond.initialized RX10 ∈ gtb := gtb_in (List.mem_of_getElem? (i := 118) (by decide +kernel)) rfl
theorem wini_RJ6 : Cond.initialized RJ6 ∈ gtb := gtb_in (List.mem_of_getElem? (i := 122) (by decide +kernel)) rfl
theorem wini_RJ9 : Cond.initialized RJ9 ∈ gtb := gtb_in (List.mem_of_getElem? (i := 121) (by decide +kernel)) rfl
theorem wini_RJ7 : Cond.initialized RJ7 ∈ gtb := gtb_in (List.mem_of_getElem? (i := 116) (by decide +kernel)) rfl
theorem wini_RL : Cond.initialized RL ∈ gtb := gtb_in (List.mem_of_getElem? (i := 107) (by decide +kernel)) rfl
theorem wini_sys : Cond.initialized "java/lang/System" ∈ gtb := gtb_in (List.mem_of_getElem? (i := 120) (by decide +kernel)) rfl
theorem wn_ac : Cond.native arraycopyName ∈ gtb := gtb_in (List.mem_of_getElem? (i := 463) (by decide +kernel)) rfl
theorem wst_ac : Cond.static arraycopyName ∈ gtb := gtb_in (List.mem_of_getElem? (i := 462) (by decide +kernel)) rfl
abbrev mX0_init : MI := (yX0_init, cX0_init, 1, none)
theorem wc_X0_init : Cond.code mX0_init.1 mX0_init.2.1 mX0_init.2.2.1 mX0_init.2.2.2 ∈ gtb := gtb_in (List.mem_of_getElem? (i := 291) (by decide +kernel)) rfl
theorem wi_X0_init : Cond.instanceMethod yX0_init ∈ gtb := gtb_in (List.mem_of_getElem? (i := 290) (by decide +kernel)) rfl
abbrev mX0_add : MI := (yX0_add, cX0_add, 2, some .int)
theorem wc_X0_add : Cond.code mX0_add.1 mX0_add.2.1 mX0_add.2.2.1 mX0_add.2.2.2 ∈ gtb := gtb_in (List.mem_of_getElem? (i := 875) (by decide +kernel)) rfl
theorem wi_X0_add : Cond.instanceMethod yX0_add ∈ gtb := gtb_in (List.mem_of_getElem? (i := 873) (by decide +kernel)) rfl
theorem ws_X0_add : Cond.selects RX0 yX0_add yX0_add ∈ gtb := gtb_in (List.mem_of_getElem? (i := 874) (by decide +kernel)) rfl
abbrev mX0_has : MI := (yX0_has, cX0_has, 2, some .boolean)
theorem wc_X0_has : Cond.code mX0_has.1 mX0_has.2.1 mX0_has.2.2.1 mX0_has.2.2.2 ∈ gtb := gtb_in (List.mem_of_getElem? (i := 883) (by decide +kernel)) rfl
theorem wi_X0_has : Cond.instanceMethod yX0_has ∈ gtb := gtb_in (List.mem_of_getElem? (i := 881) (by decide +kernel)) rfl
theorem ws_X0_has : Cond.selects RX0 yX0_has yX0_has ∈ gtb := gtb_in (List.mem_of_getElem? (i := 882) (by decide +kernel)) rfl
abbrev mX0_isUnder : MI := (yX0_isUnder, cX0_isUnder, 4, some .boolean)
theorem wc_X0_isUnder : Cond.code mX0_isUnder.1 mX0_isUnder.2.1 mX0_isUnder.2.2.1 mX0_isUnder.2.2.2 ∈ gtb := gtb_in (List.mem_of_getElem? (i := 941) (by decide +kernel)) rfl
theorem wst_X0_isUnder : Cond.static yX0_isUnder ∈ gtb := gtb_in (List.mem_of_getElem? (i := 940) (by decide +kernel)) rfl
abbrev mX0_run : MI := (yX0_run, cX0_run, 8, some .int)
theorem wc_X0_run : Cond.code mX0_run.1 mX0_run.2.1 mX0_run.2.2.1 mX0_run.2.2.2 ∈ gtb := gtb_in (List.mem_of_getElem? (i := 887) (by decide +kernel)) rfl
theorem wi_X0_run : Cond.instanceMethod yX0_run ∈ gtb := gtb_in (List.mem_of_getElem? (i := 886) (by decide +kernel)) rfl
theorem ws_X0_run : Cond.selects RX0 yX0_run yX0_run ∈ gtb := gtb_in (List.mem_of_getElem? (i := 37) (by decide +kernel)) rfl
abbrev mX0_worked : MI := (yX0_worked, cX0_worked, 7, some .int)
theorem wc_X0_worked : Cond.code mX0_worked.1 mX0_worked.2.1 mX0_worked.2.2.1 mX0_worked.2.2.2 ∈ gtb := gtb_in (List.mem_of_getElem? (i := 895) (by decide +kernel)) rfl
theorem wi_X0_worked : Cond.instanceMethod yX0_worked ∈ gtb := gtb_in (List.mem_of_getElem? (i := 894) (by decide +kernel)) rfl
theorem ws_X0_worked : Cond.selects RX0 yX0_worked yX0_worked ∈ gtb := gtb_in (List.mem_of_getElem? (i := 38) (by decide +kernel)) rfl
abbrev mX1_init : MI := (yX1_init, cX1_init, 1, none)
theorem wc_X1_init : Cond.code mX1_init.1 mX1_init.2.1 mX1_init.2.2.1 mX1_init.2.2.2 ∈ gtb := gtb_in (List.mem_of_getElem? (i := 260) (by decide +kernel)) rfl
theorem wi_X1_init : Cond.instanceMethod yX1_init ∈ gtb := gtb_in (List.mem_of_getElem? (i := 259) (by decide +kernel)) rfl
abbrev mX1_keepNew : MI := (yX1_keepNew, cX1_keepNew, 5, none)
theorem wc_X1_keepNew : Cond.code mX1_keepNew.1 mX1_keepNew.2.1 mX1_keepNew.2.2.1 mX1_keepNew.2.2.2 ∈ gtb := gtb_in (List.mem_of_getElem? (i := 456) (by decide +kernel)) rfl
theorem wi_X1_keepNew : Cond.instanceMethod yX1_keepNew ∈ gtb := gtb_in (List.mem_of_getElem? (i := 454) (by decide +kernel)) rfl
theorem ws_X1_keepNew : Cond.selects RX1 yX1_keepNew yX1_keepNew ∈ gtb := gtb_in (List.mem_of_getElem? (i := 455) (by decide +kernel)) rfl
abbrev mX1_dropOldest : MI := (yX1_dropOldest, cX1_dropOldest, 1, none)
theorem wc_X1_dropOldest : Cond.code mX1_dropOldest.1 mX1_dropOldest.2.1 mX1_dropOldest.2.2.1 mX1_dropOldest.2.2.2 ∈ gtb := gtb_in (List.mem_of_getElem? (i := 460) (by decide +kernel)) rfl
theorem wi_X1_dropOldest : Cond.instanceMethod yX1_dropOldest ∈ gtb := gtb_in (List.mem_of_getElem? (i := 459) (by decide +kernel)) rfl
theorem ws_X1_dropOldest : Cond.selects RX1 yX1_dropOldest yX1_dropOldest ∈ gtb := gtb_in (List.mem_of_getElem? (i := 3) (by decide +kernel)) rfl
abbrev mX2_init : MI := (yX2_init, cX2_init, 1, none)
theorem wc_X2_init : Cond.code mX2_init.1 mX2_init.2.1 mX2_init.2.2.1 mX2_init.2.2.2 ∈ gtb := gtb_in (List.mem_of_getElem? (i := 210) (by decide +kernel)) rfl
theorem wi_X2_init : Cond.instanceMethod yX2_init ∈ gtb := gtb_in (List.mem_of_getElem? (i := 209) (by decide +kernel)) rfl
abbrev mX2_workOut : MI := (yX2_workOut, cX2_workOut, 5, none)
theorem wc_X2_workOut : Cond.code mX2_workOut.1 mX2_workOut.2.1 mX2_workOut.2.2.1 mX2_workOut.2.2.2 ∈ gtb := gtb_in (List.mem_of_getElem? (i := 727) (by decide +kernel)) rfl
theorem wi_X2_workOut : Cond.instanceMethod yX2_workOut ∈ gtb := gtb_in (List.mem_of_getElem? (i := 725) (by decide +kernel)) rfl
theorem ws_X2_workOut : Cond.selects RX2 yX2_workOut yX2_workOut ∈ gtb := gtb_in (List.mem_of_getElem? (i := 726) (by decide +kernel)) rfl
abbrev mX2_fromBare : MI := (yX2_fromBare, cX2_fromBare, 2, some .long)
theorem wc_X2_fromBare : Cond.code mX2_fromBare.1 mX2_fromBare.2.1 mX2_fromBare.2.2.1 mX2_fromBare.2.2.2 ∈ gtb := gtb_in (List.mem_of_getElem? (i := 763) (by decide +kernel)) rfl
theorem wi_X2_fromBare : Cond.instanceMethod yX2_fromBare ∈ gtb := gtb_in (List.mem_of_getElem? (i := 761) (by decide +kernel)) rfl
theorem ws_X2_fromBare : Cond.selects RX2 yX2_fromBare yX2_fromBare ∈ gtb := gtb_in (List.mem_of_getElem? (i := 762) (by decide +kernel)) rfl
abbrev mX2_firstLooking : MI := (yX2_firstLooking, cX2_firstLooking, 5, some .int)
theorem wc_X2_firstLooking : Cond.code mX2_firstLooking.1 mX2_firstLooking.2.1 mX2_firstLooking.2.2.1 mX2_firstLooking.2.2.2 ∈ gtb := gtb_in (List.mem_of_getElem? (i := 771) (by decide +kernel)) rfl
theorem wi_X2_firstLooking : Cond.instanceMethod yX2_firstLooking ∈ gtb := gtb_in (List.mem_of_getElem? (i := 769) (by decide +kernel)) rfl
theorem ws_X2_firstLooking : Cond.selects RX2 yX2_firstLooking yX2_firstLooking ∈ gtb := gtb_in (List.mem_of_getElem? (i := 770) (by decide +kernel)) rfl
abbrev mX2_placeBehind : MI := (yX2_placeBehind, cX2_placeBehind, 7, some .int)
theorem wc_X2_placeBehind : Cond.code mX2_placeBehind.1 mX2_placeBehind.2.1 mX2_placeBehind.2.2.1 mX2_placeBehind.2.2.2 ∈ gtb := gtb_in (List.mem_of_getElem? (i := 775) (by decide +kernel)) rfl
theorem wi_X2_placeBehind : Cond.instanceMethod yX2_placeBehind ∈ gtb := gtb_in (List.mem_of_getElem? (i := 773) (by decide +kernel)) rfl
theorem ws_X2_placeBehind : Cond.selects RX2 yX2_placeBehind yX2_placeBehind ∈ gtb := gtb_in (List.mem_of_getElem? (i := 774) (by decide +kernel)) rfl
abbrev mX2_waysFrom : MI := (yX2_waysFrom, cX2_waysFrom, 4, some .long)
theorem wc_X2_waysFrom : Cond.code mX2_waysFrom.1 mX2_waysFrom.2.1 mX2_waysFrom.2.2.1 mX2_waysFrom.2.2.2 ∈ gtb := gtb_in (List.mem_of_getElem? (i := 751) (by decide +kernel)) rfl
theorem wi_X2_waysFrom : Cond.instanceMethod yX2_waysFrom ∈ gtb := gtb_in (List.mem_of_getElem? (i := 750) (by decide +kernel)) rfl
theorem ws_X2_waysFrom : Cond.selects RX2 yX2_waysFrom yX2_waysFrom ∈ gtb := gtb_in (List.mem_of_getElem? (i := 29) (by decide +kernel)) rfl
abbrev mX2_layersAt : MI := (yX2_layersAt, cX2_layersAt, 3, some .int)
theorem wc_X2_layersAt : Cond.code mX2_layersAt.1 mX2_layersAt.2.1 mX2_layersAt.2.2.1 mX2_layersAt.2.2.2 ∈ gtb := gtb_in (List.mem_of_getElem? (i := 747) (by decide +kernel)) rfl
theorem wi_X2_layersAt : Cond.instanceMethod yX2_layersAt ∈ gtb := gtb_in (List.mem_of_getElem? (i := 746) (by decide +kernel)) rfl
theorem ws_X2_layersAt : Cond.selects RX2 yX2_layersAt yX2_layersAt ∈ gtb := gtb_in (List.mem_of_getElem? (i := 28) (by decide +kernel)) rfl
abbrev mX2_sortLookings : MI := (yX2_sortLookings, cX2_sortLookings, 9, none)
theorem wc_X2_sortLookings : Cond.code mX2_sortLookings.1 mX2_sortLookings.2.1 mX2_sortLookings.2.2.1 mX2_sortLookings.2.2.2 ∈ gtb := gtb_in (List.mem_of_getElem? (i := 736) (by decide +kernel)) rfl
theorem wi_X2_sortLookings : Cond.instanceMethod yX2_sortLookings ∈ gtb := gtb_in (List.mem_of_getElem? (i := 735) (by decide +kernel)) rfl
theorem ws_X2_sortLookings : Cond.selects RX2 yX2_sortLookings yX2_sortLookings ∈ gtb := gtb_in (List.mem_of_getElem? (i := 26) (by decide +kernel)) rfl
abbrev mX2_workOutWith : MI := (yX2_workOutWith, cX2_workOutWith, 8, none)
theorem wc_X2_workOutWith : Cond.code mX2_workOutWith.1 mX2_workOutWith.2.1 mX2_workOutWith.2.2.1 mX2_workOutWith.2.2.2 ∈ gtb := gtb_in (List.mem_of_getElem? (i := 742) (by decide +kernel)) rfl
theorem wi_X2_workOutWith : Cond.instanceMethod yX2_workOutWith ∈ gtb := gtb_in (List.mem_of_getElem? (i := 741) (by decide +kernel)) rfl
theorem ws_X2_workOutWith : Cond.selects RX2 yX2_workOutWith yX2_workOutWith ∈ gtb := gtb_in (List.mem_of_getElem? (i := 27) (by decide +kernel)) rfl
abbrev mX2_lookingsThatLay : MI := (yX2_lookingsThatLay, cX2_lookingsThatLay, 4, some .int)
theorem wc_X2_lookingsThatLay : Cond.code mX2_lookingsThatLay.1 mX2_lookingsThatLay.2.1 mX2_lookingsThatLay.2.2.1 mX2_lookingsThatLay.2.2.2 ∈ gtb := gtb_in (List.mem_of_getElem? (i := 755) (by decide +kernel)) rfl
theorem wi_X2_lookingsThatLay : Cond.instanceMethod yX2_lookingsThatLay ∈ gtb := gtb_in (List.mem_of_getElem? (i := 754) (by decide +kernel)) rfl
theorem ws_X2_lookingsThatLay : Cond.selects RX2 yX2_lookingsThatLay yX2_lookingsThatLay ∈ gtb := gtb_in (List.mem_of_getElem? (i := 30) (by decide +kernel)) rfl
abbrev mX2_mayBegin : MI := (yX2_mayBegin, cX2_mayBegin, 4, some .boolean)
theorem wc_X2_mayBegin : Cond.code mX2_mayBegin.1 mX2_mayBegin.2.1 mX2_mayBegin.2.2.1 mX2_mayBegin.2.2.2 ∈ gtb := gtb_in (List.mem_of_getElem? (i := 759) (by decide +kernel)) rfl
theorem wi_X2_mayBegin : Cond.instanceMethod yX2_mayBegin ∈ gtb := gtb_in (List.mem_of_getElem? (i := 758) (by decide +kernel)) rfl
theorem ws_X2_mayBegin : Cond.selects RX2 yX2_mayBegin yX2_mayBegin ∈ gtb := gtb_in (List.mem_of_getElem? (i := 31) (by decide +kernel)) rfl
abbrev mX3_init : MI := (yX3_init, cX3_init, 1, none)
theorem wc_X3_init : Cond.code mX3_init.1 mX3_init.2.1 mX3_init.2.2.1 mX3_init.2.2.2 ∈ gtb := gtb_in (List.mem_of_getElem? (i := 188) (by decide +kernel)) rfl
theorem wi_X3_init : Cond.instanceMethod yX3_init ∈ gtb := gtb_in (List.mem_of_getElem? (i := 187) (by decide +kernel)) rfl
abbrev mX3_become : MI := (yX3_become, cX3_become, 2, none)
theorem wc_X3_become : Cond.code mX3_become.1 mX3_become.2.1 mX3_become.2.2.1 mX3_become.2.2.2 ∈ gtb := gtb_in (List.mem_of_getElem? (i := 625) (by decide +kernel)) rfl
theorem wi_X3_become : Cond.instanceMethod yX3_become ∈ gtb := gtb_in (List.mem_of_getElem? (i := 623) (by decide +kernel)) rfl
theorem ws_X3_become : Cond.selects RX3 yX3_become yX3_become ∈ gtb := gtb_in (List.mem_of_getElem? (i := 624) (by decide +kernel)) rfl
abbrev mX3_tells : MI := (yX3_tells, cX3_tells, 3, some .int)
theorem wc_X3_tells : Cond.code mX3_tells.1 mX3_tells.2.1 mX3_tells.2.2.1 mX3_tells.2.2.2 ∈ gtb := gtb_in (List.mem_of_getElem? (i := 501) (by decide +kernel)) rfl
theorem wi_X3_tells : Cond.instanceMethod yX3_tells ∈ gtb := gtb_in (List.mem_of_getElem? (i := 499) (by decide +kernel)) rfl
theorem ws_X3_tells : Cond.selects RX3 yX3_tells yX3_tells ∈ gtb := gtb_in (List.mem_of_getElem? (i := 500) (by decide +kernel)) rfl
abbrev mX3_uppermost : MI := (yX3_uppermost, cX3_uppermost, 1, some .int)
theorem wc_X3_uppermost : Cond.code mX3_uppermost.1 mX3_uppermost.2.1 mX3_uppermost.2.2.1 mX3_uppermost.2.2.2 ∈ gtb := gtb_in (List.mem_of_getElem? (i := 639) (by decide +kernel)) rfl
theorem wi_X3_uppermost : Cond.instanceMethod yX3_uppermost ∈ gtb := gtb_in (List.mem_of_getElem? (i := 637) (by decide +kernel)) rfl
theorem ws_X3_uppermost : Cond.selects RX3 yX3_uppermost yX3_uppermost ∈ gtb := gtb_in (List.mem_of_getElem? (i := 638) (by decide +kernel)) rfl
abbrev mX3_settle : MI := (yX3_settle, cX3_settle, 4, some .int)
theorem wc_X3_settle : Cond.code mX3_settle.1 mX3_settle.2.1 mX3_settle.2.2.1 mX3_settle.2.2.2 ∈ gtb := gtb_in (List.mem_of_getElem? (i := 635) (by decide +kernel)) rfl
theorem wi_X3_settle : Cond.instanceMethod yX3_settle ∈ gtb := gtb_in (List.mem_of_getElem? (i := 633) (by decide +kernel)) rfl
theorem ws_X3_settle : Cond.selects RX3 yX3_settle yX3_settle ∈ gtb := gtb_in (List.mem_of_getElem? (i := 634) (by decide +kernel)) rfl
abbrev mX3_press : MI := (yX3_press, cX3_press, 2, none)
theorem wc_X3_press : Cond.code mX3_press.1 mX3_press.2.1 mX3_press.2.2.1 mX3_press.2.2.2 ∈ gtb := gtb_in (List.mem_of_getElem? (i := 645) (by decide +kernel)) rfl
theorem wi_X3_press : Cond.instanceMethod yX3_press ∈ gtb := gtb_in (List.mem_of_getElem? (i := 644) (by decide +kernel)) rfl
theorem ws_X3_press : Cond.selects RX3 yX3_press yX3_press ∈ gtb := gtb_in (List.mem_of_getElem? (i := 21) (by decide +kernel)) rfl
abbrev mX3_takeFromAbove : MI := (yX3_takeFromAbove, cX3_takeFromAbove, 5, some .int)
theorem wc_X3_takeFromAbove : Cond.code mX3_takeFromAbove.1 mX3_takeFromAbove.2.1 mX3_takeFromAbove.2.2.1 mX3_takeFromAbove.2.2.2 ∈ gtb := gtb_in (List.mem_of_getElem? (i := 673) (by decide +kernel)) rfl
theorem wi_X3_takeFromAbove : Cond.instanceMethod yX3_takeFromAbove ∈ gtb := gtb_in (List.mem_of_getElem? (i := 671) (by decide +kernel)) rfl
theorem ws_X3_takeFromAbove : Cond.selects RX3 yX3_takeFromAbove yX3_takeFromAbove ∈ gtb := gtb_in (List.mem_of_getElem? (i := 672) (by decide +kernel)) rfl
abbrev mX3_allThick : MI := (yX3_allThick, cX3_allThick, 1, some .int)
theorem wc_X3_allThick : Cond.code mX3_allThick.1 mX3_allThick.2.1 mX3_allThick.2.2.1 mX3_allThick.2.2.2 ∈ gtb := gtb_in (List.mem_of_getElem? (i := 489) (by decide +kernel)) rfl
theorem wi_X3_allThick : Cond.instanceMethod yX3_allThick ∈ gtb := gtb_in (List.mem_of_getElem? (i := 487) (by decide +kernel)) rfl
theorem ws_X3_allThick : Cond.selects RX3 yX3_allThick yX3_allThick ∈ gtb := gtb_in (List.mem_of_getElem? (i := 488) (by decide +kernel)) rfl
abbrev mX3_thickFrom : MI := (yX3_thickFrom, cX3_thickFrom, 4, some .int)
theorem wc_X3_thickFrom : Cond.code mX3_thickFrom.1 mX3_thickFrom.2.1 mX3_thickFrom.2.2.1 mX3_thickFrom.2.2.2 ∈ gtb := gtb_in (List.mem_of_getElem? (i := 493) (by decide +kernel)) rfl
theorem wi_X3_thickFrom : Cond.instanceMethod yX3_thickFrom ∈ gtb := gtb_in (List.mem_of_getElem? (i := 491) (by decide +kernel)) rfl
theorem ws_X3_thickFrom : Cond.selects RX3 yX3_thickFrom yX3_thickFrom ∈ gtb := gtb_in (List.mem_of_getElem? (i := 492) (by decide +kernel)) rfl
abbrev mX3_readBits : MI := (yX3_readBits, cX3_readBits, 3, some .int)
theorem wc_X3_readBits : Cond.code mX3_readBits.1 mX3_readBits.2.1 mX3_readBits.2.2.1 mX3_readBits.2.2.2 ∈ gtb := gtb_in (List.mem_of_getElem? (i := 649) (by decide +kernel)) rfl
theorem wi_X3_readBits : Cond.instanceMethod yX3_readBits ∈ gtb := gtb_in (List.mem_of_getElem? (i := 647) (by decide +kernel)) rfl
theorem ws_X3_readBits : Cond.selects RX3 yX3_readBits yX3_readBits ∈ gtb := gtb_in (List.mem_of_getElem? (i := 648) (by decide +kernel)) rfl
abbrev mX3_nextOf : MI := (yX3_nextOf, cX3_nextOf, 4, some .int)
theorem wc_X3_nextOf : Cond.code mX3_nextOf.1 mX3_nextOf.2.1 mX3_nextOf.2.2.1 mX3_nextOf.2.2.2 ∈ gtb := gtb_in (List.mem_of_getElem? (i := 682) (by decide +kernel)) rfl
theorem wi_X3_nextOf : Cond.instanceMethod yX3_nextOf ∈ gtb := gtb_in (List.mem_of_getElem? (i := 680) (by decide +kernel)) rfl
theorem ws_X3_nextOf : Cond.selects RX3 yX3_nextOf yX3_nextOf ∈ gtb := gtb_in (List.mem_of_getElem? (i := 681) (by decide +kernel)) rfl
abbrev mX3_unlikeFromAbove : MI := (yX3_unlikeFromAbove, cX3_unlikeFromAbove, 5, some .int)
theorem wc_X3_unlikeFromAbove : Cond.code mX3_unlikeFromAbove.1 mX3_unlikeFromAbove.2.1 mX3_unlikeFromAbove.2.2.1 mX3_unlikeFromAbove.2.2.2 ∈ gtb := gtb_in (List.mem_of_getElem? (i := 665) (by decide +kernel)) rfl
theorem wi_X3_unlikeFromAbove : Cond.instanceMethod yX3_unlikeFromAbove ∈ gtb := gtb_in (List.mem_of_getElem? (i := 663) (by decide +kernel)) rfl
theorem ws_X3_unlikeFromAbove : Cond.selects RX3 yX3_unlikeFromAbove yX3_unlikeFromAbove ∈ gtb := gtb_in (List.mem_of_getElem? (i := 664) (by decide +kernel)) rfl
abbrev mX3_ofWhomMost : MI := (yX3_ofWhomMost, cX3_ofWhomMost, 5, some .int)
theorem wc_X3_ofWhomMost : Cond.code mX3_ofWhomMost.1 mX3_ofWhomMost.2.1 mX3_ofWhomMost.2.2.1 mX3_ofWhomMost.2.2.2 ∈ gtb := gtb_in (List.mem_of_getElem? (i := 653) (by decide +kernel)) rfl
theorem wi_X3_ofWhomMost : Cond.instanceMethod yX3_ofWhomMost ∈ gtb := gtb_in (List.mem_of_getElem? (i := 651) (by decide +kernel)) rfl
theorem ws_X3_ofWhomMost : Cond.selects RX3 yX3_ofWhomMost yX3_ofWhomMost ∈ gtb := gtb_in (List.mem_of_getElem? (i := 652) (by decide +kernel)) rfl
abbrev mX3_thickOf : MI := (yX3_thickOf, cX3_thickOf, 4, some .int)
theorem wc_X3_thickOf : Cond.code mX3_thickOf.1 mX3_thickOf.2.1 mX3_thickOf.2.2.1 mX3_thickOf.2.2.2 ∈ gtb := gtb_in (List.mem_of_getElem? (i := 657) (by decide +kernel)) rfl
theorem wi_X3_thickOf : Cond.instanceMethod yX3_thickOf ∈ gtb := gtb_in (List.mem_of_getElem? (i := 656) (by decide +kernel)) rfl
theorem ws_X3_thickOf : Cond.selects RX3 yX3_thickOf yX3_thickOf ∈ gtb := gtb_in (List.mem_of_getElem? (i := 22) (by decide +kernel)) rfl
abbrev mX4_init : MI := (yX4_init, cX4_init, 2, none)
theorem wc_X4_init : Cond.code mX4_init.1 mX4_init.2.1 mX4_init.2.2.1 mX4_init.2.2.2 ∈ gtb := gtb_in (List.mem_of_getElem? (i := 239) (by decide +kernel)) rfl
theorem wi_X4_init : Cond.instanceMethod yX4_init ∈ gtb := gtb_in (List.mem_of_getElem? (i := 238) (by decide +kernel)) rfl
abbrev mX5_init : MI := (yX5_init, cX5_init, 1, none)
theorem wc_X5_init : Cond.code mX5_init.1 mX5_init.2.1 mX5_init.2.2.1 mX5_init.2.2.2 ∈ gtb := gtb_in (List.mem_of_getElem? (i := 161) (by decide +kernel)) rfl
theorem wi_X5_init : Cond.instanceMethod yX5_init ∈ gtb := gtb_in (List.mem_of_getElem? (i := 160) (by decide +kernel)) rfl
abbrev mX5_add : MI := (yX5_add, cX5_add, 2, none)
theorem wc_X5_add : Cond.code mX5_add.1 mX5_add.2.1 mX5_add.2.2.1 mX5_add.2.2.2 ∈ gtb := gtb_in (List.mem_of_getElem? (i := 544) (by decide +kernel)) rfl
theorem wi_X5_add : Cond.instanceMethod yX5_add ∈ gtb := gtb_in (List.mem_of_getElem? (i := 542) (by decide +kernel)) rfl
theorem ws_X5_add : Cond.selects RX5 yX5_add yX5_add ∈ gtb := gtb_in (List.mem_of_getElem? (i := 543) (by decide +kernel)) rfl
abbrev mX5_become : MI := (yX5_become, cX5_become, 2, none)
theorem wc_X5_become : Cond.code mX5_become.1 mX5_become.2.1 mX5_become.2.2.1 mX5_become.2.2.2 ∈ gtb := gtb_in (List.mem_of_getElem? (i := 560) (by decide +kernel)) rfl
theorem wi_X5_become : Cond.instanceMethod yX5_become ∈ gtb := gtb_in (List.mem_of_getElem? (i := 558) (by decide +kernel)) rfl
theorem ws_X5_become : Cond.selects RX5 yX5_become yX5_become ∈ gtb := gtb_in (List.mem_of_getElem? (i := 559) (by decide +kernel)) rfl
abbrev mX5_worth : MI := (yX5_worth, cX5_worth, 8, some .int)
theorem wc_X5_worth : Cond.code mX5_worth.1 mX5_worth.2.1 mX5_worth.2.2.1 mX5_worth.2.2.2 ∈ gtb := gtb_in (List.mem_of_getElem? (i := 583) (by decide +kernel)) rfl
theorem wi_X5_worth : Cond.instanceMethod yX5_worth ∈ gtb := gtb_in (List.mem_of_getElem? (i := 581) (by decide +kernel)) rfl
theorem ws_X5_worth : Cond.selects RX5 yX5_worth yX5_worth ∈ gtb := gtb_in (List.mem_of_getElem? (i := 582) (by decide +kernel)) rfl
abbrev mX5_endOfLine : MI := (yX5_endOfLine, cX5_endOfLine, 3, some .int)
theorem wc_X5_endOfLine : Cond.code mX5_endOfLine.1 mX5_endOfLine.2.1 mX5_endOfLine.2.2.1 mX5_endOfLine.2.2.2 ∈ gtb := gtb_in (List.mem_of_getElem? (i := 605) (by decide +kernel)) rfl
theorem wi_X5_endOfLine : Cond.instanceMethod yX5_endOfLine ∈ gtb := gtb_in (List.mem_of_getElem? (i := 604) (by decide +kernel)) rfl
theorem ws_X5_endOfLine : Cond.selects RX5 yX5_endOfLine yX5_endOfLine ∈ gtb := gtb_in (List.mem_of_getElem? (i := 18) (by decide +kernel)) rfl
abbrev mX5_work : MI := (yX5_work, cX5_work, 4, none)
theorem wc_X5_work : Cond.code mX5_work.1 mX5_work.2.1 mX5_work.2.2.1 mX5_work.2.2.2 ∈ gtb := gtb_in (List.mem_of_getElem? (i := 594) (by decide +kernel)) rfl
theorem wi_X5_work : Cond.instanceMethod yX5_work ∈ gtb := gtb_in (List.mem_of_getElem? (i := 593) (by decide +kernel)) rfl
theorem ws_X5_work : Cond.selects RX5 yX5_work yX5_work ∈ gtb := gtb_in (List.mem_of_getElem? (i := 16) (by decide +kernel)) rfl
abbrev mX5_joined : MI := (yX5_joined, cX5_joined, 3, some .int)
theorem wc_X5_joined : Cond.code mX5_joined.1 mX5_joined.2.1 mX5_joined.2.2.1 mX5_joined.2.2.2 ∈ gtb := gtb_in (List.mem_of_getElem? (i := 601) (by decide +kernel)) rfl
theorem wst_X5_joined : Cond.static yX5_joined ∈ gtb := gtb_in (List.mem_of_getElem? (i := 600) (by decide +kernel)) rfl
abbrev mX5_push : MI := (yX5_push, cX5_push, 2, none)
theorem wc_X5_push : Cond.code mX5_push.1 mX5_push.2.1 mX5_push.2.2.1 mX5_push.2.2.2 ∈ gtb := gtb_in (List.mem_of_getElem? (i := 598) (by decide +kernel)) rfl
theorem wi_X5_push : Cond.instanceMethod yX5_push ∈ gtb := gtb_in (List.mem_of_getElem? (i := 597) (by decide +kernel)) rfl
theorem ws_X5_push : Cond.selects RX5 yX5_push yX5_push ∈ gtb := gtb_in (List.mem_of_getElem? (i := 17) (by decide +kernel)) rfl
abbrev mX5_pop : MI := (yX5_pop, cX5_pop, 1, some .int)
theorem wc_X5_pop : Cond.code mX5_pop.1 mX5_pop.2.1 mX5_pop.2.2.1 mX5_pop.2.2.2 ∈ gtb := gtb_in (List.mem_of_getElem? (i := 590) (by decide +kernel)) rfl
theorem wi_X5_pop : Cond.instanceMethod yX5_pop ∈ gtb := gtb_in (List.mem_of_getElem? (i := 589) (by decide +kernel)) rfl
theorem ws_X5_pop : Cond.selects RX5 yX5_pop yX5_pop ∈ gtb := gtb_in (List.mem_of_getElem? (i := 15) (by decide +kernel)) rfl
abbrev mX6_init : MI := (yX6_init, cX6_init, 1, none)
theorem wc_X6_init : Cond.code mX6_init.1 mX6_init.2.1 mX6_init.2.2.1 mX6_init.2.2.2 ∈ gtb := gtb_in (List.mem_of_getElem? (i := 318) (by decide +kernel)) rfl
theorem wi_X6_init : Cond.instanceMethod yX6_init ∈ gtb := gtb_in (List.mem_of_getElem? (i := 317) (by decide +kernel)) rfl
abbrev mX6_isRow : MI := (yX6_isRow, cX6_isRow, 1, some .boolean)
theorem wc_X6_isRow : Cond.code mX6_isRow.1 mX6_isRow.2.1 mX6_isRow.2.2.1 mX6_isRow.2.2.2 ∈ gtb := gtb_in (List.mem_of_getElem? (i := 432) (by decide +kernel)) rfl
theorem wi_X6_isRow : Cond.instanceMethod yX6_isRow ∈ gtb := gtb_in (List.mem_of_getElem? (i := 430) (by decide +kernel)) rfl
theorem ws_X6_isRow : Cond.selects RX6 yX6_isRow yX6_isRow ∈ gtb := gtb_in (List.mem_of_getElem? (i := 431) (by decide +kernel)) rfl
abbrev mX6_isBytes : MI := (yX6_isBytes, cX6_isBytes, 1, some .boolean)
theorem wc_X6_isBytes : Cond.code mX6_isBytes.1 mX6_isBytes.2.1 mX6_isBytes.2.2.1 mX6_isBytes.2.2.2 ∈ gtb := gtb_in (List.mem_of_getElem? (i := 428) (by decide +kernel)) rfl
theorem wi_X6_isBytes : Cond.instanceMethod yX6_isBytes ∈ gtb := gtb_in (List.mem_of_getElem? (i := 426) (by decide +kernel)) rfl
theorem ws_X6_isBytes : Cond.selects RX6 yX6_isBytes yX6_isBytes ∈ gtb := gtb_in (List.mem_of_getElem? (i := 427) (by decide +kernel)) rfl
abbrev mX6_hasPlaces : MI := (yX6_hasPlaces, cX6_hasPlaces, 3, some .boolean)
theorem wc_X6_hasPlaces : Cond.code mX6_hasPlaces.1 mX6_hasPlaces.2.1 mX6_hasPlaces.2.2.1 mX6_hasPlaces.2.2.2 ∈ gtb := gtb_in (List.mem_of_getElem? (i := 922) (by decide +kernel)) rfl
theorem wi_X6_hasPlaces : Cond.instanceMethod yX6_hasPlaces ∈ gtb := gtb_in (List.mem_of_getElem? (i := 920) (by decide +kernel)) rfl
theorem ws_X6_hasPlaces : Cond.selects RX6 yX6_hasPlaces yX6_hasPlaces ∈ gtb := gtb_in (List.mem_of_getElem? (i := 921) (by decide +kernel)) rfl
abbrev mX6_lowestBits : MI := (yX6_lowestBits, cX6_lowestBits, 3, some .long)
theorem wc_X6_lowestBits : Cond.code mX6_lowestBits.1 mX6_lowestBits.2.1 mX6_lowestBits.2.2.1 mX6_lowestBits.2.2.2 ∈ gtb := gtb_in (List.mem_of_getElem? (i := 926) (by decide +kernel)) rfl
theorem wi_X6_lowestBits : Cond.instanceMethod yX6_lowestBits ∈ gtb := gtb_in (List.mem_of_getElem? (i := 924) (by decide +kernel)) rfl
theorem ws_X6_lowestBits : Cond.selects RX6 yX6_lowestBits yX6_lowestBits ∈ gtb := gtb_in (List.mem_of_getElem? (i := 925) (by decide +kernel)) rfl
abbrev mX7_init : MI := (yX7_init, cX7_init, 4, none)
theorem wc_X7_init : Cond.code mX7_init.1 mX7_init.2.1 mX7_init.2.2.1 mX7_init.2.2.2 ∈ gtb := gtb_in (List.mem_of_getElem? (i := 393) (by decide +kernel)) rfl
theorem wi_X7_init : Cond.instanceMethod yX7_init ∈ gtb := gtb_in (List.mem_of_getElem? (i := 392) (by decide +kernel)) rfl
abbrev mX7_gives : MI := (yX7_gives, cX7_gives, 6, some .int)
theorem wc_X7_gives : Cond.code mX7_gives.1 mX7_gives.2.1 mX7_gives.2.2.1 mX7_gives.2.2.2 ∈ gtb := gtb_in (List.mem_of_getElem? (i := 579) (by decide +kernel)) rfl
theorem wi_X7_gives : Cond.instanceMethod yX7_gives ∈ gtb := gtb_in (List.mem_of_getElem? (i := 577) (by decide +kernel)) rfl
theorem ws_X7_gives : Cond.selects RX7 yX7_gives yX7_gives ∈ gtb := gtb_in (List.mem_of_getElem? (i := 578) (by decide +kernel)) rfl
abbrev mX7_layOn : MI := (yX7_layOn, cX7_layOn, 4, some .int)
theorem wc_X7_layOn : Cond.code mX7_layOn.1 mX7_layOn.2.1 mX7_layOn.2.2.1 mX7_layOn.2.2.2 ∈ gtb := gtb_in (List.mem_of_getElem? (i := 630) (by decide +kernel)) rfl
theorem wi_X7_layOn : Cond.instanceMethod yX7_layOn ∈ gtb := gtb_in (List.mem_of_getElem? (i := 628) (by decide +kernel)) rfl
theorem ws_X7_layOn : Cond.selects RX7 yX7_layOn yX7_layOn ∈ gtb := gtb_in (List.mem_of_getElem? (i := 629) (by decide +kernel)) rfl
abbrev mX7_forget : MI := (yX7_forget, cX7_forget, 1, none)
theorem wc_X7_forget : Cond.code mX7_forget.1 mX7_forget.2.1 mX7_forget.2.2.1 mX7_forget.2.2.2 ∈ gtb := gtb_in (List.mem_of_getElem? (i := 475) (by decide +kernel)) rfl
theorem wi_X7_forget : Cond.instanceMethod yX7_forget ∈ gtb := gtb_in (List.mem_of_getElem? (i := 473) (by decide +kernel)) rfl
theorem ws_X7_forget : Cond.selects RX7 yX7_forget yX7_forget ∈ gtb := gtb_in (List.mem_of_getElem? (i := 474) (by decide +kernel)) rfl
abbrev mX8_init : MI := (yX8_init, cX8_init, 1, none)
theorem wc_X8_init : Cond.code mX8_init.1 mX8_init.2.1 mX8_init.2.2.1 mX8_init.2.2.2 ∈ gtb := gtb_in (List.mem_of_getElem? (i := 137) (by decide +kernel)) rfl
theorem wi_X8_init : Cond.instanceMethod yX8_init ∈ gtb := gtb_in (List.mem_of_getElem? (i := 136) (by decide +kernel)) rfl
abbrev mX8_add : MI := (yX8_add, cX8_add, 2, some .boolean)
theorem wc_X8_add : Cond.code mX8_add.1 mX8_add.2.1 mX8_add.2.2.1 mX8_add.2.2.2 ∈ gtb := gtb_in (List.mem_of_getElem? (i := 509) (by decide +kernel)) rfl
theorem wi_X8_add : Cond.instanceMethod yX8_add ∈ gtb := gtb_in (List.mem_of_getElem? (i := 507) (by decide +kernel)) rfl
theorem ws_X8_add : Cond.selects RX8 yX8_add yX8_add ∈ gtb := gtb_in (List.mem_of_getElem? (i := 508) (by decide +kernel)) rfl
abbrev mX8_readInto : MI := (yX8_readInto, cX8_readInto, 3, some .int)
theorem wc_X8_readInto : Cond.code mX8_readInto.1 mX8_readInto.2.1 mX8_readInto.2.2.1 mX8_readInto.2.2.2 ∈ gtb := gtb_in (List.mem_of_getElem? (i := 517) (by decide +kernel)) rfl
theorem wi_X8_readInto : Cond.instanceMethod yX8_readInto ∈ gtb := gtb_in (List.mem_of_getElem? (i := 515) (by decide +kernel)) rfl
theorem ws_X8_readInto : Cond.selects RX8 yX8_readInto yX8_readInto ∈ gtb := gtb_in (List.mem_of_getElem? (i := 516) (by decide +kernel)) rfl
abbrev mX8_readLine : MI := (yX8_readLine, cX8_readLine, 1, none)
theorem wc_X8_readLine : Cond.code mX8_readLine.1 mX8_readLine.2.1 mX8_readLine.2.2.1 mX8_readLine.2.2.2 ∈ gtb := gtb_in (List.mem_of_getElem? (i := 521) (by decide +kernel)) rfl
theorem wi_X8_readLine : Cond.instanceMethod yX8_readLine ∈ gtb := gtb_in (List.mem_of_getElem? (i := 520) (by decide +kernel)) rfl
theorem ws_X8_readLine : Cond.selects RX8 yX8_readLine yX8_readLine ∈ gtb := gtb_in (List.mem_of_getElem? (i := 6) (by decide +kernel)) rfl
abbrev mX8_readPart : MI := (yX8_readPart, cX8_readPart, 6, none)
theorem wc_X8_readPart : Cond.code mX8_readPart.1 mX8_readPart.2.1 mX8_readPart.2.2.1 mX8_readPart.2.2.2 ∈ gtb := gtb_in (List.mem_of_getElem? (i := 525) (by decide +kernel)) rfl
theorem wi_X8_readPart : Cond.instanceMethod yX8_readPart ∈ gtb := gtb_in (List.mem_of_getElem? (i := 524) (by decide +kernel)) rfl
theorem ws_X8_readPart : Cond.selects RX8 yX8_readPart yX8_readPart ∈ gtb := gtb_in (List.mem_of_getElem? (i := 7) (by decide +kernel)) rfl
abbrev mX8_readTighter : MI := (yX8_readTighter, cX8_readTighter, 3, none)
theorem wc_X8_readTighter : Cond.code mX8_readTighter.1 mX8_readTighter.2.1 mX8_readTighter.2.2.1 mX8_readTighter.2.2.2 ∈ gtb := gtb_in (List.mem_of_getElem? (i := 529) (by decide +kernel)) rfl
theorem wi_X8_readTighter : Cond.instanceMethod yX8_readTighter ∈ gtb := gtb_in (List.mem_of_getElem? (i := 528) (by decide +kernel)) rfl
theorem ws_X8_readTighter : Cond.selects RX8 yX8_readTighter yX8_readTighter ∈ gtb := gtb_in (List.mem_of_getElem? (i := 8) (by decide +kernel)) rfl
abbrev mX8_readOperand : MI := (yX8_readOperand, cX8_readOperand, 4, none)
theorem wc_X8_readOperand : Cond.code mX8_readOperand.1 mX8_readOperand.2.1 mX8_readOperand.2.2.1 mX8_readOperand.2.2.2 ∈ gtb := gtb_in (List.mem_of_getElem? (i := 533) (by decide +kernel)) rfl
theorem wi_X8_readOperand : Cond.instanceMethod yX8_readOperand ∈ gtb := gtb_in (List.mem_of_getElem? (i := 532) (by decide +kernel)) rfl
theorem ws_X8_readOperand : Cond.selects RX8 yX8_readOperand yX8_readOperand ∈ gtb := gtb_in (List.mem_of_getElem? (i := 9) (by decide +kernel)) rfl
abbrev mX8_readOpened : MI := (yX8_readOpened, cX8_readOpened, 3, none)
theorem wc_X8_readOpened : Cond.code mX8_readOpened.1 mX8_readOpened.2.1 mX8_readOpened.2.2.1 mX8_readOpened.2.2.2 ∈ gtb := gtb_in (List.mem_of_getElem? (i := 548) (by decide +kernel)) rfl
theorem wi_X8_readOpened : Cond.instanceMethod yX8_readOpened ∈ gtb := gtb_in (List.mem_of_getElem? (i := 547) (by decide +kernel)) rfl
theorem ws_X8_readOpened : Cond.selects RX8 yX8_readOpened yX8_readOpened ∈ gtb := gtb_in (List.mem_of_getElem? (i := 11) (by decide +kernel)) rfl
abbrev mX8_readNumber : MI := (yX8_readNumber, cX8_readNumber, 3, none)
theorem wc_X8_readNumber : Cond.code mX8_readNumber.1 mX8_readNumber.2.1 mX8_readNumber.2.2.1 mX8_readNumber.2.2.2 ∈ gtb := gtb_in (List.mem_of_getElem? (i := 540) (by decide +kernel)) rfl
theorem wi_X8_readNumber : Cond.instanceMethod yX8_readNumber ∈ gtb := gtb_in (List.mem_of_getElem? (i := 539) (by decide +kernel)) rfl
theorem ws_X8_readNumber : Cond.selects RX8 yX8_readNumber yX8_readNumber ∈ gtb := gtb_in (List.mem_of_getElem? (i := 10) (by decide +kernel)) rfl
abbrev mX8_passes : MI := (yX8_passes, cX8_passes, 2, some .boolean)
theorem wc_X8_passes : Cond.code mX8_passes.1 mX8_passes.2.1 mX8_passes.2.2.1 mX8_passes.2.2.2 ∈ gtb := gtb_in (List.mem_of_getElem? (i := 552) (by decide +kernel)) rfl
theorem wi_X8_passes : Cond.instanceMethod yX8_passes ∈ gtb := gtb_in (List.mem_of_getElem? (i := 551) (by decide +kernel)) rfl
theorem ws_X8_passes : Cond.selects RX8 yX8_passes yX8_passes ∈ gtb := gtb_in (List.mem_of_getElem? (i := 12) (by decide +kernel)) rfl
abbrev mX8_partOfSign : MI := (yX8_partOfSign, cX8_partOfSign, 1, some .int)
theorem wc_X8_partOfSign : Cond.code mX8_partOfSign.1 mX8_partOfSign.2.1 mX8_partOfSign.2.2.1 mX8_partOfSign.2.2.2 ∈ gtb := gtb_in (List.mem_of_getElem? (i := 556) (by decide +kernel)) rfl
theorem wi_X8_partOfSign : Cond.instanceMethod yX8_partOfSign ∈ gtb := gtb_in (List.mem_of_getElem? (i := 555) (by decide +kernel)) rfl
theorem ws_X8_partOfSign : Cond.selects RX8 yX8_partOfSign yX8_partOfSign ∈ gtb := gtb_in (List.mem_of_getElem? (i := 13) (by decide +kernel)) rfl
abbrev mX8_nameOf : MI := (yX8_nameOf, cX8_nameOf, 1, some .int)
theorem wc_X8_nameOf : Cond.code mX8_nameOf.1 mX8_nameOf.2.1 mX8_nameOf.2.2.1 mX8_nameOf.2.2.2 ∈ gtb := gtb_in (List.mem_of_getElem? (i := 536) (by decide +kernel)) rfl
theorem wst_X8_nameOf : Cond.static yX8_nameOf ∈ gtb := gtb_in (List.mem_of_getElem? (i := 535) (by decide +kernel)) rfl
abbrev mX9_init : MI := (yX9_init, cX9_init, 2, none)
theorem wc_X9_init : Cond.code mX9_init.1 mX9_init.2.1 mX9_init.2.2.1 mX9_init.2.2.2 ∈ gtb := gtb_in (List.mem_of_getElem? (i := 127) (by decide +kernel)) rfl
theorem wi_X9_init : Cond.instanceMethod yX9_init ∈ gtb := gtb_in (List.mem_of_getElem? (i := 126) (by decide +kernel)) rfl
abbrev mX9_sill : MI := (yX9_sill, cX9_sill, 3, some .int)
theorem wc_X9_sill : Cond.code mX9_sill.1 mX9_sill.2.1 mX9_sill.2.2.1 mX9_sill.2.2.2 ∈ gtb := gtb_in (List.mem_of_getElem? (i := 386) (by decide +kernel)) rfl
theorem wi_X9_sill : Cond.instanceMethod yX9_sill ∈ gtb := gtb_in (List.mem_of_getElem? (i := 384) (by decide +kernel)) rfl
theorem ws_X9_sill : Cond.selects RX9 yX9_sill yX9_sill ∈ gtb := gtb_in (List.mem_of_getElem? (i := 385) (by decide +kernel)) rfl
abbrev mX9_sills : MI := (yX9_sills, cX9_sills, 7, some .int)
theorem wc_X9_sills : Cond.code mX9_sills.1 mX9_sills.2.1 mX9_sills.2.2.1 mX9_sills.2.2.2 ∈ gtb := gtb_in (List.mem_of_getElem? (i := 421) (by decide +kernel)) rfl
theorem wi_X9_sills : Cond.instanceMethod yX9_sills ∈ gtb := gtb_in (List.mem_of_getElem? (i := 419) (by decide +kernel)) rfl
theorem ws_X9_sills : Cond.selects RX9 yX9_sills yX9_sills ∈ gtb := gtb_in (List.mem_of_getElem? (i := 420) (by decide +kernel)) rfl
abbrev mX9_mend : MI := (yX9_mend, cX9_mend, 5, some .int)
theorem wc_X9_mend : Cond.code mX9_mend.1 mX9_mend.2.1 mX9_mend.2.2.1 mX9_mend.2.2.2 ∈ gtb := gtb_in (List.mem_of_getElem? (i := 437) (by decide +kernel)) rfl
theorem wi_X9_mend : Cond.instanceMethod yX9_mend ∈ gtb := gtb_in (List.mem_of_getElem? (i := 435) (by decide +kernel)) rfl
theorem ws_X9_mend : Cond.selects RX9 yX9_mend yX9_mend ∈ gtb := gtb_in (List.mem_of_getElem? (i := 436) (by decide +kernel)) rfl
abbrev mX9_of : MI := (yX9_of, cX9_of, 4, some .int)
theorem wc_X9_of : Cond.code mX9_of.1 mX9_of.2.1 mX9_of.2.2.1 mX9_of.2.2.2 ∈ gtb := gtb_in (List.mem_of_getElem? (i := 485) (by decide +kernel)) rfl
theorem wi_X9_of : Cond.instanceMethod yX9_of ∈ gtb := gtb_in (List.mem_of_getElem? (i := 483) (by decide +kernel)) rfl
theorem ws_X9_of : Cond.selects RX9 yX9_of yX9_of ∈ gtb := gtb_in (List.mem_of_getElem? (i := 484) (by decide +kernel)) rfl
abbrev mX9_layer : MI := (yX9_layer, cX9_layer, 5, some .int)
theorem wc_X9_layer : Cond.code mX9_layer.1 mX9_layer.2.1 mX9_layer.2.2.1 mX9_layer.2.2.2 ∈ gtb := gtb_in (List.mem_of_getElem? (i := 497) (by decide +kernel)) rfl
theorem wi_X9_layer : Cond.instanceMethod yX9_layer ∈ gtb := gtb_in (List.mem_of_getElem? (i := 495) (by decide +kernel)) rfl
theorem ws_X9_layer : Cond.selects RX9 yX9_layer yX9_layer ∈ gtb := gtb_in (List.mem_of_getElem? (i := 496) (by decide +kernel)) rfl
abbrev mX9_feed : MI := (yX9_feed, cX9_feed, 2, some .int)
theorem wc_X9_feed : Cond.code mX9_feed.1 mX9_feed.2.1 mX9_feed.2.2.1 mX9_feed.2.2.2 ∈ gtb := gtb_in (List.mem_of_getElem? (i := 505) (by decide +kernel)) rfl
theorem wi_X9_feed : Cond.instanceMethod yX9_feed ∈ gtb := gtb_in (List.mem_of_getElem? (i := 503) (by decide +kernel)) rfl
theorem ws_X9_feed : Cond.selects RX9 yX9_feed yX9_feed ∈ gtb := gtb_in (List.mem_of_getElem? (i := 504) (by decide +kernel)) rfl
abbrev mX9_law : MI := (yX9_law, cX9_law, 2, some .int)
theorem wc_X9_law : Cond.code mX9_law.1 mX9_law.2.1 mX9_law.2.2.1 mX9_law.2.2.2 ∈ gtb := gtb_in (List.mem_of_getElem? (i := 513) (by decide +kernel)) rfl
theorem wi_X9_law : Cond.instanceMethod yX9_law ∈ gtb := gtb_in (List.mem_of_getElem? (i := 511) (by decide +kernel)) rfl
theorem ws_X9_law : Cond.selects RX9 yX9_law yX9_law ∈ gtb := gtb_in (List.mem_of_getElem? (i := 512) (by decide +kernel)) rfl
abbrev mX9_lays : MI := (yX9_lays, cX9_lays, 4, some .int)
theorem wc_X9_lays : Cond.code mX9_lays.1 mX9_lays.2.1 mX9_lays.2.2.1 mX9_lays.2.2.2 ∈ gtb := gtb_in (List.mem_of_getElem? (i := 565) (by decide +kernel)) rfl
theorem wi_X9_lays : Cond.instanceMethod yX9_lays ∈ gtb := gtb_in (List.mem_of_getElem? (i := 563) (by decide +kernel)) rfl
theorem ws_X9_lays : Cond.selects RX9 yX9_lays yX9_lays ∈ gtb := gtb_in (List.mem_of_getElem? (i := 564) (by decide +kernel)) rfl
abbrev mX9_later : MI := (yX9_later, cX9_later, 8, some .int)
theorem wc_X9_later : Cond.code mX9_later.1 mX9_later.2.1 mX9_later.2.2.1 mX9_later.2.2.2 ∈ gtb := gtb_in (List.mem_of_getElem? (i := 613) (by decide +kernel)) rfl
theorem wi_X9_later : Cond.instanceMethod yX9_later ∈ gtb := gtb_in (List.mem_of_getElem? (i := 611) (by decide +kernel)) rfl
theorem ws_X9_later : Cond.selects RX9 yX9_later yX9_later ∈ gtb := gtb_in (List.mem_of_getElem? (i := 612) (by decide +kernel)) rfl
abbrev mX9_laid : MI := (yX9_laid, cX9_laid, 8, some .int)
theorem wc_X9_laid : Cond.code mX9_laid.1 mX9_laid.2.1 mX9_laid.2.2.1 mX9_laid.2.2.2 ∈ gtb := gtb_in (List.mem_of_getElem? (i := 661) (by decide +kernel)) rfl
theorem wi_X9_laid : Cond.instanceMethod yX9_laid ∈ gtb := gtb_in (List.mem_of_getElem? (i := 659) (by decide +kernel)) rfl
theorem ws_X9_laid : Cond.selects RX9 yX9_laid yX9_laid ∈ gtb := gtb_in (List.mem_of_getElem? (i := 660) (by decide +kernel)) rfl
abbrev mX9_breath : MI := (yX9_breath, cX9_breath, 5, some .int)
theorem wc_X9_breath : Cond.code mX9_breath.1 mX9_breath.2.1 mX9_breath.2.2.1 mX9_breath.2.2.2 ∈ gtb := gtb_in (List.mem_of_getElem? (i := 669) (by decide +kernel)) rfl
theorem wi_X9_breath : Cond.instanceMethod yX9_breath ∈ gtb := gtb_in (List.mem_of_getElem? (i := 667) (by decide +kernel)) rfl
theorem ws_X9_breath : Cond.selects RX9 yX9_breath yX9_breath ∈ gtb := gtb_in (List.mem_of_getElem? (i := 668) (by decide +kernel)) rfl
abbrev mX9_clear : MI := (yX9_clear, cX9_clear, 4, some .int)
theorem wc_X9_clear : Cond.code mX9_clear.1 mX9_clear.2.1 mX9_clear.2.2.1 mX9_clear.2.2.2 ∈ gtb := gtb_in (List.mem_of_getElem? (i := 678) (by decide +kernel)) rfl
theorem wi_X9_clear : Cond.instanceMethod yX9_clear ∈ gtb := gtb_in (List.mem_of_getElem? (i := 676) (by decide +kernel)) rfl
theorem ws_X9_clear : Cond.selects RX9 yX9_clear yX9_clear ∈ gtb := gtb_in (List.mem_of_getElem? (i := 677) (by decide +kernel)) rfl
abbrev mX9_touch : MI := (yX9_touch, cX9_touch, 6, some .int)
theorem wc_X9_touch : Cond.code mX9_touch.1 mX9_touch.2.1 mX9_touch.2.2.1 mX9_touch.2.2.2 ∈ gtb := gtb_in (List.mem_of_getElem? (i := 688) (by decide +kernel)) rfl
theorem wi_X9_touch : Cond.instanceMethod yX9_touch ∈ gtb := gtb_in (List.mem_of_getElem? (i := 686) (by decide +kernel)) rfl
theorem ws_X9_touch : Cond.selects RX9 yX9_touch yX9_touch ∈ gtb := gtb_in (List.mem_of_getElem? (i := 687) (by decide +kernel)) rfl
abbrev mX9_tellsOf : MI := (yX9_tellsOf, cX9_tellsOf, 2, some .int)
theorem wc_X9_tellsOf : Cond.code mX9_tellsOf.1 mX9_tellsOf.2.1 mX9_tellsOf.2.2.1 mX9_tellsOf.2.2.2 ∈ gtb := gtb_in (List.mem_of_getElem? (i := 692) (by decide +kernel)) rfl
theorem wi_X9_tellsOf : Cond.instanceMethod yX9_tellsOf ∈ gtb := gtb_in (List.mem_of_getElem? (i := 690) (by decide +kernel)) rfl
theorem ws_X9_tellsOf : Cond.selects RX9 yX9_tellsOf yX9_tellsOf ∈ gtb := gtb_in (List.mem_of_getElem? (i := 691) (by decide +kernel)) rfl
abbrev mX9_fewest : MI := (yX9_fewest, cX9_fewest, 4, some .int)
theorem wc_X9_fewest : Cond.code mX9_fewest.1 mX9_fewest.2.1 mX9_fewest.2.2.1 mX9_fewest.2.2.2 ∈ gtb := gtb_in (List.mem_of_getElem? (i := 700) (by decide +kernel)) rfl
theorem wi_X9_fewest : Cond.instanceMethod yX9_fewest ∈ gtb := gtb_in (List.mem_of_getElem? (i := 698) (by decide +kernel)) rfl
theorem ws_X9_fewest : Cond.selects RX9 yX9_fewest yX9_fewest ∈ gtb := gtb_in (List.mem_of_getElem? (i := 699) (by decide +kernel)) rfl
abbrev mX9_corner : MI := (yX9_corner, cX9_corner, 5, some .int)
theorem wc_X9_corner : Cond.code mX9_corner.1 mX9_corner.2.1 mX9_corner.2.2.1 mX9_corner.2.2.2 ∈ gtb := gtb_in (List.mem_of_getElem? (i := 718) (by decide +kernel)) rfl
theorem wi_X9_corner : Cond.instanceMethod yX9_corner ∈ gtb := gtb_in (List.mem_of_getElem? (i := 716) (by decide +kernel)) rfl
theorem ws_X9_corner : Cond.selects RX9 yX9_corner yX9_corner ∈ gtb := gtb_in (List.mem_of_getElem? (i := 717) (by decide +kernel)) rfl
abbrev mX9_ways : MI := (yX9_ways, cX9_ways, 4, some .long)
theorem wc_X9_ways : Cond.code mX9_ways.1 mX9_ways.2.1 mX9_ways.2.2.1 mX9_ways.2.2.2 ∈ gtb := gtb_in (List.mem_of_getElem? (i := 722) (by decide +kernel)) rfl
theorem wi_X9_ways : Cond.instanceMethod yX9_ways ∈ gtb := gtb_in (List.mem_of_getElem? (i := 720) (by decide +kernel)) rfl
theorem ws_X9_ways : Cond.selects RX9 yX9_ways yX9_ways ∈ gtb := gtb_in (List.mem_of_getElem? (i := 721) (by decide +kernel)) rfl
abbrev mX9_first : MI := (yX9_first, cX9_first, 8, some .int)
theorem wc_X9_first : Cond.code mX9_first.1 mX9_first.2.1 mX9_first.2.2.1 mX9_first.2.2.2 ∈ gtb := gtb_in (List.mem_of_getElem? (i := 767) (by decide +kernel)) rfl
theorem wi_X9_first : Cond.instanceMethod yX9_first ∈ gtb := gtb_in (List.mem_of_getElem? (i := 765) (by decide +kernel)) rfl
theorem ws_X9_first : Cond.selects RX9 yX9_first yX9_first ∈ gtb := gtb_in (List.mem_of_getElem? (i := 766) (by decide +kernel)) rfl
abbrev mX9_least : MI := (yX9_least, cX9_least, 4, some .int)
theorem wc_X9_least : Cond.code mX9_least.1 mX9_least.2.1 mX9_least.2.2.1 mX9_least.2.2.2 ∈ gtb := gtb_in (List.mem_of_getElem? (i := 780) (by decide +kernel)) rfl
theorem wi_X9_least : Cond.instanceMethod yX9_least ∈ gtb := gtb_in (List.mem_of_getElem? (i := 778) (by decide +kernel)) rfl
theorem ws_X9_least : Cond.selects RX9 yX9_least yX9_least ∈ gtb := gtb_in (List.mem_of_getElem? (i := 779) (by decide +kernel)) rfl
abbrev mX9_certain : MI := (yX9_certain, cX9_certain, 6, some .int)
theorem wc_X9_certain : Cond.code mX9_certain.1 mX9_certain.2.1 mX9_certain.2.2.1 mX9_certain.2.2.2 ∈ gtb := gtb_in (List.mem_of_getElem? (i := 784) (by decide +kernel)) rfl
theorem wi_X9_certain : Cond.instanceMethod yX9_certain ∈ gtb := gtb_in (List.mem_of_getElem? (i := 782) (by decide +kernel)) rfl
theorem ws_X9_certain : Cond.selects RX9 yX9_certain yX9_certain ∈ gtb := gtb_in (List.mem_of_getElem? (i := 783) (by decide +kernel)) rfl
abbrev mX9_alike : MI := (yX9_alike, cX9_alike, 6, some .int)
theorem wc_X9_alike : Cond.code mX9_alike.1 mX9_alike.2.1 mX9_alike.2.2.1 mX9_alike.2.2.2 ∈ gtb := gtb_in (List.mem_of_getElem? (i := 788) (by decide +kernel)) rfl
theorem wi_X9_alike : Cond.instanceMethod yX9_alike ∈ gtb := gtb_in (List.mem_of_getElem? (i := 786) (by decide +kernel)) rfl
theorem ws_X9_alike : Cond.selects RX9 yX9_alike yX9_alike ∈ gtb := gtb_in (List.mem_of_getElem? (i := 787) (by decide +kernel)) rfl
abbrev mX9_same : MI := (yX9_same, cX9_same, 5, some .int)
theorem wc_X9_same : Cond.code mX9_same.1 mX9_same.2.1 mX9_same.2.2.1 mX9_same.2.2.2 ∈ gtb := gtb_in (List.mem_of_getElem? (i := 809) (by decide +kernel)) rfl
theorem wi_X9_same : Cond.instanceMethod yX9_same ∈ gtb := gtb_in (List.mem_of_getElem? (i := 807) (by decide +kernel)) rfl
theorem ws_X9_same : Cond.selects RX9 yX9_same yX9_same ∈ gtb := gtb_in (List.mem_of_getElem? (i := 808) (by decide +kernel)) rfl
abbrev mX9_likely : MI := (yX9_likely, cX9_likely, 6, some .long)
theorem wc_X9_likely : Cond.code mX9_likely.1 mX9_likely.2.1 mX9_likely.2.2.1 mX9_likely.2.2.2 ∈ gtb := gtb_in (List.mem_of_getElem? (i := 813) (by decide +kernel)) rfl
theorem wi_X9_likely : Cond.instanceMethod yX9_likely ∈ gtb := gtb_in (List.mem_of_getElem? (i := 811) (by decide +kernel)) rfl
theorem ws_X9_likely : Cond.selects RX9 yX9_likely yX9_likely ∈ gtb := gtb_in (List.mem_of_getElem? (i := 812) (by decide +kernel)) rfl
abbrev mX9_expected : MI := (yX9_expected, cX9_expected, 5, some .int)
theorem wc_X9_expected : Cond.code mX9_expected.1 mX9_expected.2.1 mX9_expected.2.2.1 mX9_expected.2.2.2 ∈ gtb := gtb_in (List.mem_of_getElem? (i := 824) (by decide +kernel)) rfl
theorem wi_X9_expected : Cond.instanceMethod yX9_expected ∈ gtb := gtb_in (List.mem_of_getElem? (i := 822) (by decide +kernel)) rfl
theorem ws_X9_expected : Cond.selects RX9 yX9_expected yX9_expected ∈ gtb := gtb_in (List.mem_of_getElem? (i := 823) (by decide +kernel)) rfl
abbrev mX9_judge : MI := (yX9_judge, cX9_judge, 8, some .int)
theorem wc_X9_judge : Cond.code mX9_judge.1 mX9_judge.2.1 mX9_judge.2.2.1 mX9_judge.2.2.2 ∈ gtb := gtb_in (List.mem_of_getElem? (i := 828) (by decide +kernel)) rfl
theorem wi_X9_judge : Cond.instanceMethod yX9_judge ∈ gtb := gtb_in (List.mem_of_getElem? (i := 826) (by decide +kernel)) rfl
theorem ws_X9_judge : Cond.selects RX9 yX9_judge yX9_judge ∈ gtb := gtb_in (List.mem_of_getElem? (i := 827) (by decide +kernel)) rfl
abbrev mX9_drawn : MI := (yX9_drawn, cX9_drawn, 12, some .int)
theorem wc_X9_drawn : Cond.code mX9_drawn.1 mX9_drawn.2.1 mX9_drawn.2.2.1 mX9_drawn.2.2.2 ∈ gtb := gtb_in (List.mem_of_getElem? (i := 833) (by decide +kernel)) rfl
theorem wi_X9_drawn : Cond.instanceMethod yX9_drawn ∈ gtb := gtb_in (List.mem_of_getElem? (i := 831) (by decide +kernel)) rfl
theorem ws_X9_drawn : Cond.selects RX9 yX9_drawn yX9_drawn ∈ gtb := gtb_in (List.mem_of_getElem? (i := 832) (by decide +kernel)) rfl
abbrev mX9_look : MI := (yX9_look, cX9_look, 5, some .int)
theorem wc_X9_look : Cond.code mX9_look.1 mX9_look.2.1 mX9_look.2.2.1 mX9_look.2.2.2 ∈ gtb := gtb_in (List.mem_of_getElem? (i := 838) (by decide +kernel)) rfl
theorem wi_X9_look : Cond.instanceMethod yX9_look ∈ gtb := gtb_in (List.mem_of_getElem? (i := 836) (by decide +kernel)) rfl
theorem ws_X9_look : Cond.selects RX9 yX9_look yX9_look ∈ gtb := gtb_in (List.mem_of_getElem? (i := 837) (by decide +kernel)) rfl
abbrev mX9_blow : MI := (yX9_blow, cX9_blow, 5, some .int)
theorem wc_X9_blow : Cond.code mX9_blow.1 mX9_blow.2.1 mX9_blow.2.2.1 mX9_blow.2.2.2 ∈ gtb := gtb_in (List.mem_of_getElem? (i := 842) (by decide +kernel)) rfl
theorem wi_X9_blow : Cond.instanceMethod yX9_blow ∈ gtb := gtb_in (List.mem_of_getElem? (i := 840) (by decide +kernel)) rfl
theorem ws_X9_blow : Cond.selects RX9 yX9_blow yX9_blow ∈ gtb := gtb_in (List.mem_of_getElem? (i := 841) (by decide +kernel)) rfl
abbrev mX9_sweep : MI := (yX9_sweep, cX9_sweep, 4, some .int)
theorem wc_X9_sweep : Cond.code mX9_sweep.1 mX9_sweep.2.1 mX9_sweep.2.2.1 mX9_sweep.2.2.2 ∈ gtb := gtb_in (List.mem_of_getElem? (i := 846) (by decide +kernel)) rfl
theorem wi_X9_sweep : Cond.instanceMethod yX9_sweep ∈ gtb := gtb_in (List.mem_of_getElem? (i := 844) (by decide +kernel)) rfl
theorem ws_X9_sweep : Cond.selects RX9 yX9_sweep yX9_sweep ∈ gtb := gtb_in (List.mem_of_getElem? (i := 845) (by decide +kernel)) rfl
abbrev mX9_led : MI := (yX9_led, cX9_led, 2, some .int)
theorem wc_X9_led : Cond.code mX9_led.1 mX9_led.2.1 mX9_led.2.2.1 mX9_led.2.2.2 ∈ gtb := gtb_in (List.mem_of_getElem? (i := 850) (by decide +kernel)) rfl
theorem wi_X9_led : Cond.instanceMethod yX9_led ∈ gtb := gtb_in (List.mem_of_getElem? (i := 848) (by decide +kernel)) rfl
theorem ws_X9_led : Cond.selects RX9 yX9_led yX9_led ∈ gtb := gtb_in (List.mem_of_getElem? (i := 849) (by decide +kernel)) rfl
abbrev mX9_image : MI := (yX9_image, cX9_image, 2, some .int)
theorem wc_X9_image : Cond.code mX9_image.1 mX9_image.2.1 mX9_image.2.2.1 mX9_image.2.2.2 ∈ gtb := gtb_in (List.mem_of_getElem? (i := 854) (by decide +kernel)) rfl
theorem wi_X9_image : Cond.instanceMethod yX9_image ∈ gtb := gtb_in (List.mem_of_getElem? (i := 852) (by decide +kernel)) rfl
theorem ws_X9_image : Cond.selects RX9 yX9_image yX9_image ∈ gtb := gtb_in (List.mem_of_getElem? (i := 853) (by decide +kernel)) rfl
abbrev mX9_back : MI := (yX9_back, cX9_back, 2, some .int)
theorem wc_X9_back : Cond.code mX9_back.1 mX9_back.2.1 mX9_back.2.2.1 mX9_back.2.2.2 ∈ gtb := gtb_in (List.mem_of_getElem? (i := 859) (by decide +kernel)) rfl
theorem wi_X9_back : Cond.instanceMethod yX9_back ∈ gtb := gtb_in (List.mem_of_getElem? (i := 857) (by decide +kernel)) rfl
theorem ws_X9_back : Cond.selects RX9 yX9_back yX9_back ∈ gtb := gtb_in (List.mem_of_getElem? (i := 858) (by decide +kernel)) rfl
abbrev mX9_undo : MI := (yX9_undo, cX9_undo, 2, some .int)
theorem wc_X9_undo : Cond.code mX9_undo.1 mX9_undo.2.1 mX9_undo.2.2.1 mX9_undo.2.2.2 ∈ gtb := gtb_in (List.mem_of_getElem? (i := 863) (by decide +kernel)) rfl
theorem wi_X9_undo : Cond.instanceMethod yX9_undo ∈ gtb := gtb_in (List.mem_of_getElem? (i := 861) (by decide +kernel)) rfl
theorem ws_X9_undo : Cond.selects RX9 yX9_undo yX9_undo ∈ gtb := gtb_in (List.mem_of_getElem? (i := 862) (by decide +kernel)) rfl
abbrev mX9_redo : MI := (yX9_redo, cX9_redo, 2, some .int)
theorem wc_X9_redo : Cond.code mX9_redo.1 mX9_redo.2.1 mX9_redo.2.2.1 mX9_redo.2.2.2 ∈ gtb := gtb_in (List.mem_of_getElem? (i := 867) (by decide +kernel)) rfl
theorem wi_X9_redo : Cond.instanceMethod yX9_redo ∈ gtb := gtb_in (List.mem_of_getElem? (i := 865) (by decide +kernel)) rfl
theorem ws_X9_redo : Cond.selects RX9 yX9_redo yX9_redo ∈ gtb := gtb_in (List.mem_of_getElem? (i := 866) (by decide +kernel)) rfl
abbrev mX9_body : MI := (yX9_body, cX9_body, 2, some .int)
theorem wc_X9_body : Cond.code mX9_body.1 mX9_body.2.1 mX9_body.2.2.1 mX9_body.2.2.2 ∈ gtb := gtb_in (List.mem_of_getElem? (i := 871) (by decide +kernel)) rfl
theorem wi_X9_body : Cond.instanceMethod yX9_body ∈ gtb := gtb_in (List.mem_of_getElem? (i := 869) (by decide +kernel)) rfl
theorem ws_X9_body : Cond.selects RX9 yX9_body yX9_body ∈ gtb := gtb_in (List.mem_of_getElem? (i := 870) (by decide +kernel)) rfl
abbrev mX9_act : MI := (yX9_act, cX9_act, 4, some .int)
theorem wc_X9_act : Cond.code mX9_act.1 mX9_act.2.1 mX9_act.2.2.1 mX9_act.2.2.2 ∈ gtb := gtb_in (List.mem_of_getElem? (i := 879) (by decide +kernel)) rfl
theorem wi_X9_act : Cond.instanceMethod yX9_act ∈ gtb := gtb_in (List.mem_of_getElem? (i := 877) (by decide +kernel)) rfl
theorem ws_X9_act : Cond.selects RX9 yX9_act yX9_act ∈ gtb := gtb_in (List.mem_of_getElem? (i := 878) (by decide +kernel)) rfl
abbrev mX9_trace : MI := (yX9_trace, cX9_trace, 2, some .int)
theorem wc_X9_trace : Cond.code mX9_trace.1 mX9_trace.2.1 mX9_trace.2.2.1 mX9_trace.2.2.2 ∈ gtb := gtb_in (List.mem_of_getElem? (i := 900) (by decide +kernel)) rfl
theorem wi_X9_trace : Cond.instanceMethod yX9_trace ∈ gtb := gtb_in (List.mem_of_getElem? (i := 898) (by decide +kernel)) rfl
theorem ws_X9_trace : Cond.selects RX9 yX9_trace yX9_trace ∈ gtb := gtb_in (List.mem_of_getElem? (i := 899) (by decide +kernel)) rfl
abbrev mX9_keep : MI := (yX9_keep, cX9_keep, 4, some .int)
theorem wc_X9_keep : Cond.code mX9_keep.1 mX9_keep.2.1 mX9_keep.2.2.1 mX9_keep.2.2.2 ∈ gtb := gtb_in (List.mem_of_getElem? (i := 904) (by decide +kernel)) rfl
theorem wi_X9_keep : Cond.instanceMethod yX9_keep ∈ gtb := gtb_in (List.mem_of_getElem? (i := 902) (by decide +kernel)) rfl
theorem ws_X9_keep : Cond.selects RX9 yX9_keep yX9_keep ∈ gtb := gtb_in (List.mem_of_getElem? (i := 903) (by decide +kernel)) rfl
abbrev mX9_row : MI := (yX9_row, cX9_row, 5, some .int)
theorem wc_X9_row : Cond.code mX9_row.1 mX9_row.2.1 mX9_row.2.2.1 mX9_row.2.2.2 ∈ gtb := gtb_in (List.mem_of_getElem? (i := 908) (by decide +kernel)) rfl
theorem wi_X9_row : Cond.instanceMethod yX9_row ∈ gtb := gtb_in (List.mem_of_getElem? (i := 906) (by decide +kernel)) rfl
theorem ws_X9_row : Cond.selects RX9 yX9_row yX9_row ∈ gtb := gtb_in (List.mem_of_getElem? (i := 907) (by decide +kernel)) rfl
abbrev mX9_put : MI := (yX9_put, cX9_put, 7, some .int)
theorem wc_X9_put : Cond.code mX9_put.1 mX9_put.2.1 mX9_put.2.2.1 mX9_put.2.2.2 ∈ gtb := gtb_in (List.mem_of_getElem? (i := 913) (by decide +kernel)) rfl
theorem wi_X9_put : Cond.instanceMethod yX9_put ∈ gtb := gtb_in (List.mem_of_getElem? (i := 911) (by decide +kernel)) rfl
theorem ws_X9_put : Cond.selects RX9 yX9_put yX9_put ∈ gtb := gtb_in (List.mem_of_getElem? (i := 912) (by decide +kernel)) rfl
abbrev mX9_element : MI := (yX9_element, cX9_element, 3, some .long)
theorem wc_X9_element : Cond.code mX9_element.1 mX9_element.2.1 mX9_element.2.2.1 mX9_element.2.2.2 ∈ gtb := gtb_in (List.mem_of_getElem? (i := 930) (by decide +kernel)) rfl
theorem wi_X9_element : Cond.instanceMethod yX9_element ∈ gtb := gtb_in (List.mem_of_getElem? (i := 928) (by decide +kernel)) rfl
theorem ws_X9_element : Cond.selects RX9 yX9_element yX9_element ∈ gtb := gtb_in (List.mem_of_getElem? (i := 929) (by decide +kernel)) rfl
abbrev mX9_shift : MI := (yX9_shift, cX9_shift, 8, some .int)
theorem wc_X9_shift : Cond.code mX9_shift.1 mX9_shift.2.1 mX9_shift.2.2.1 mX9_shift.2.2.2 ∈ gtb := gtb_in (List.mem_of_getElem? (i := 934) (by decide +kernel)) rfl
theorem wi_X9_shift : Cond.instanceMethod yX9_shift ∈ gtb := gtb_in (List.mem_of_getElem? (i := 932) (by decide +kernel)) rfl
theorem ws_X9_shift : Cond.selects RX9 yX9_shift yX9_shift ∈ gtb := gtb_in (List.mem_of_getElem? (i := 933) (by decide +kernel)) rfl
abbrev mX9_taken : MI := (yX9_taken, cX9_taken, 5, some .int)
theorem wc_X9_taken : Cond.code mX9_taken.1 mX9_taken.2.1 mX9_taken.2.2.1 mX9_taken.2.2.2 ∈ gtb := gtb_in (List.mem_of_getElem? (i := 938) (by decide +kernel)) rfl
theorem wi_X9_taken : Cond.instanceMethod yX9_taken ∈ gtb := gtb_in (List.mem_of_getElem? (i := 936) (by decide +kernel)) rfl
theorem ws_X9_taken : Cond.selects RX9 yX9_taken yX9_taken ∈ gtb := gtb_in (List.mem_of_getElem? (i := 937) (by decide +kernel)) rfl
abbrev mX9_count : MI := (yX9_count, cX9_count, 2, some .int)
theorem wc_X9_count : Cond.code mX9_count.1 mX9_count.2.1 mX9_count.2.2.1 mX9_count.2.2.2 ∈ gtb := gtb_in (List.mem_of_getElem? (i := 945) (by decide +kernel)) rfl
theorem wi_X9_count : Cond.instanceMethod yX9_count ∈ gtb := gtb_in (List.mem_of_getElem? (i := 943) (by decide +kernel)) rfl
theorem ws_X9_count : Cond.selects RX9 yX9_count yX9_count ∈ gtb := gtb_in (List.mem_of_getElem? (i := 944) (by decide +kernel)) rfl
abbrev mX9_isWithin : MI := (yX9_isWithin, cX9_isWithin, 2, some .boolean)
theorem wc_X9_isWithin : Cond.code mX9_isWithin.1 mX9_isWithin.2.1 mX9_isWithin.2.2.1 mX9_isWithin.2.2.2 ∈ gtb := gtb_in (List.mem_of_getElem? (i := 389) (by decide +kernel)) rfl
theorem wst_X9_isWithin : Cond.static yX9_isWithin ∈ gtb := gtb_in (List.mem_of_getElem? (i := 388) (by decide +kernel)) rfl
abbrev mX9_isOne : MI := (yX9_isOne, cX9_isOne, 1, some .boolean)
theorem wc_X9_isOne : Cond.code mX9_isOne.1 mX9_isOne.2.1 mX9_isOne.2.2.1 mX9_isOne.2.2.2 ∈ gtb := gtb_in (List.mem_of_getElem? (i := 448) (by decide +kernel)) rfl
theorem wst_X9_isOne : Cond.static yX9_isOne ∈ gtb := gtb_in (List.mem_of_getElem? (i := 447) (by decide +kernel)) rfl
abbrev mX9_isShelf : MI := (yX9_isShelf, cX9_isShelf, 1, some .boolean)
theorem wc_X9_isShelf : Cond.code mX9_isShelf.1 mX9_isShelf.2.1 mX9_isShelf.2.2.1 mX9_isShelf.2.2.2 ∈ gtb := gtb_in (List.mem_of_getElem? (i := 424) (by decide +kernel)) rfl
theorem wst_X9_isShelf : Cond.static yX9_isShelf ∈ gtb := gtb_in (List.mem_of_getElem? (i := 423) (by decide +kernel)) rfl
abbrev mX9_isLooking : MI := (yX9_isLooking, cX9_isLooking, 1, some .boolean)
theorem wc_X9_isLooking : Cond.code mX9_isLooking.1 mX9_isLooking.2.1 mX9_isLooking.2.2.1 mX9_isLooking.2.2.2 ∈ gtb := gtb_in (List.mem_of_getElem? (i := 568) (by decide +kernel)) rfl
theorem wst_X9_isLooking : Cond.static yX9_isLooking ∈ gtb := gtb_in (List.mem_of_getElem? (i := 567) (by decide +kernel)) rfl
abbrev mX9_isMendable : MI := (yX9_isMendable, cX9_isMendable, 3, some .boolean)
theorem wc_X9_isMendable : Cond.code mX9_isMendable.1 mX9_isMendable.2.1 mX9_isMendable.2.2.1 mX9_isMendable.2.2.2 ∈ gtb := gtb_in (List.mem_of_getElem? (i := 441) (by decide +kernel)) rfl
theorem wi_X9_isMendable : Cond.instanceMethod yX9_isMendable ∈ gtb := gtb_in (List.mem_of_getElem? (i := 440) (by decide +kernel)) rfl
theorem ws_X9_isMendable : Cond.selects RX9 yX9_isMendable yX9_isMendable ∈ gtb := gtb_in (List.mem_of_getElem? (i := 0) (by decide +kernel)) rfl
abbrev mX9_sillAt : MI := (yX9_sillAt, cX9_sillAt, 2, some ((.object "DustInOrder$Sill")))
theorem wc_X9_sillAt : Cond.code mX9_sillAt.1 mX9_sillAt.2.1 mX9_sillAt.2.2.1 mX9_sillAt.2.2.2 ∈ gtb := gtb_in (List.mem_of_getElem? (i := 445) (by decide +kernel)) rfl
theorem wi_X9_sillAt : Cond.instanceMethod yX9_sillAt ∈ gtb := gtb_in (List.mem_of_getElem? (i := 444) (by decide +kernel)) rfl
theorem ws_X9_sillAt : Cond.selects RX9 yX9_sillAt yX9_sillAt ∈ gtb := gtb_in (List.mem_of_getElem? (i := 1) (by decide +kernel)) rfl
abbrev mX9_refusalOfBytes : MI := (yX9_refusalOfBytes, cX9_refusalOfBytes, 2, some .int)
theorem wc_X9_refusalOfBytes : Cond.code mX9_refusalOfBytes.1 mX9_refusalOfBytes.2.1 mX9_refusalOfBytes.2.2.1 mX9_refusalOfBytes.2.2.2 ∈ gtb := gtb_in (List.mem_of_getElem? (i := 617) (by decide +kernel)) rfl
theorem wi_X9_refusalOfBytes : Cond.instanceMethod yX9_refusalOfBytes ∈ gtb := gtb_in (List.mem_of_getElem? (i := 616) (by decide +kernel)) rfl
theorem ws_X9_refusalOfBytes : Cond.selects RX9 yX9_refusalOfBytes yX9_refusalOfBytes ∈ gtb := gtb_in (List.mem_of_getElem? (i := 19) (by decide +kernel)) rfl
abbrev mX9_refusalOfPlace : MI := (yX9_refusalOfPlace, cX9_refusalOfPlace, 3, some .int)
theorem wc_X9_refusalOfPlace : Cond.code mX9_refusalOfPlace.1 mX9_refusalOfPlace.2.1 mX9_refusalOfPlace.2.2.1 mX9_refusalOfPlace.2.2.2 ∈ gtb := gtb_in (List.mem_of_getElem? (i := 917) (by decide +kernel)) rfl
theorem wi_X9_refusalOfPlace : Cond.instanceMethod yX9_refusalOfPlace ∈ gtb := gtb_in (List.mem_of_getElem? (i := 916) (by decide +kernel)) rfl
theorem ws_X9_refusalOfPlace : Cond.selects RX9 yX9_refusalOfPlace yX9_refusalOfPlace ∈ gtb := gtb_in (List.mem_of_getElem? (i := 39) (by decide +kernel)) rfl
abbrev mX9_numberOf : MI := (yX9_numberOf, cX9_numberOf, 4, some .int)
theorem wc_X9_numberOf : Cond.code mX9_numberOf.1 mX9_numberOf.2.1 mX9_numberOf.2.2.1 mX9_numberOf.2.2.2 ∈ gtb := gtb_in (List.mem_of_getElem? (i := 452) (by decide +kernel)) rfl
theorem wi_X9_numberOf : Cond.instanceMethod yX9_numberOf ∈ gtb := gtb_in (List.mem_of_getElem? (i := 451) (by decide +kernel)) rfl
theorem ws_X9_numberOf : Cond.selects RX9 yX9_numberOf yX9_numberOf ∈ gtb := gtb_in (List.mem_of_getElem? (i := 2) (by decide +kernel)) rfl
abbrev mX9_setNumber : MI := (yX9_setNumber, cX9_setNumber, 4, none)
theorem wc_X9_setNumber : Cond.code mX9_setNumber.1 mX9_setNumber.2.1 mX9_setNumber.2.2.1 mX9_setNumber.2.2.2 ∈ gtb := gtb_in (List.mem_of_getElem? (i := 467) (by decide +kernel)) rfl
theorem wi_X9_setNumber : Cond.instanceMethod yX9_setNumber ∈ gtb := gtb_in (List.mem_of_getElem? (i := 466) (by decide +kernel)) rfl
theorem ws_X9_setNumber : Cond.selects RX9 yX9_setNumber yX9_setNumber ∈ gtb := gtb_in (List.mem_of_getElem? (i := 4) (by decide +kernel)) rfl
abbrev mX9_setSill : MI := (yX9_setSill, cX9_setSill, 3, none)
theorem wc_X9_setSill : Cond.code mX9_setSill.1 mX9_setSill.2.1 mX9_setSill.2.2.1 mX9_setSill.2.2.2 ∈ gtb := gtb_in (List.mem_of_getElem? (i := 481) (by decide +kernel)) rfl
theorem wst_X9_setSill : Cond.static yX9_setSill ∈ gtb := gtb_in (List.mem_of_getElem? (i := 480) (by decide +kernel)) rfl
abbrev mX9_forgetAll : MI := (yX9_forgetAll, cX9_forgetAll, 2, none)
theorem wc_X9_forgetAll : Cond.code mX9_forgetAll.1 mX9_forgetAll.2.1 mX9_forgetAll.2.2.1 mX9_forgetAll.2.2.2 ∈ gtb := gtb_in (List.mem_of_getElem? (i := 471) (by decide +kernel)) rfl
theorem wi_X9_forgetAll : Cond.instanceMethod yX9_forgetAll ∈ gtb := gtb_in (List.mem_of_getElem? (i := 470) (by decide +kernel)) rfl
theorem ws_X9_forgetAll : Cond.selects RX9 yX9_forgetAll yX9_forgetAll ∈ gtb := gtb_in (List.mem_of_getElem? (i := 5) (by decide +kernel)) rfl
abbrev mX9_whomOf : MI := (yX9_whomOf, cX9_whomOf, 1, some .int)
theorem wc_X9_whomOf : Cond.code mX9_whomOf.1 mX9_whomOf.2.1 mX9_whomOf.2.2.1 mX9_whomOf.2.2.2 ∈ gtb := gtb_in (List.mem_of_getElem? (i := 571) (by decide +kernel)) rfl
theorem wst_X9_whomOf : Cond.static yX9_whomOf ∈ gtb := gtb_in (List.mem_of_getElem? (i := 570) (by decide +kernel)) rfl
abbrev mX9_muchOf : MI := (yX9_muchOf, cX9_muchOf, 2, some .int)
theorem wc_X9_muchOf : Cond.code mX9_muchOf.1 mX9_muchOf.2.1 mX9_muchOf.2.2.1 mX9_muchOf.2.2.2 ∈ gtb := gtb_in (List.mem_of_getElem? (i := 575) (by decide +kernel)) rfl
theorem wi_X9_muchOf : Cond.instanceMethod yX9_muchOf ∈ gtb := gtb_in (List.mem_of_getElem? (i := 574) (by decide +kernel)) rfl
theorem ws_X9_muchOf : Cond.selects RX9 yX9_muchOf yX9_muchOf ∈ gtb := gtb_in (List.mem_of_getElem? (i := 14) (by decide +kernel)) rfl
abbrev mX9_thinkBook : MI := (yX9_thinkBook, cX9_thinkBook, 9, some .int)
theorem wc_X9_thinkBook : Cond.code mX9_thinkBook.1 mX9_thinkBook.2.1 mX9_thinkBook.2.2.1 mX9_thinkBook.2.2.2 ∈ gtb := gtb_in (List.mem_of_getElem? (i := 621) (by decide +kernel)) rfl
theorem wi_X9_thinkBook : Cond.instanceMethod yX9_thinkBook ∈ gtb := gtb_in (List.mem_of_getElem? (i := 620) (by decide +kernel)) rfl
theorem ws_X9_thinkBook : Cond.selects RX9 yX9_thinkBook yX9_thinkBook ∈ gtb := gtb_in (List.mem_of_getElem? (i := 20) (by decide +kernel)) rfl
abbrev mX9_sillsThatRead : MI := (yX9_sillsThatRead, cX9_sillsThatRead, 4, some .int)
theorem wc_X9_sillsThatRead : Cond.code mX9_sillsThatRead.1 mX9_sillsThatRead.2.1 mX9_sillsThatRead.2.2.1 mX9_sillsThatRead.2.2.2 ∈ gtb := gtb_in (List.mem_of_getElem? (i := 696) (by decide +kernel)) rfl
theorem wi_X9_sillsThatRead : Cond.instanceMethod yX9_sillsThatRead ∈ gtb := gtb_in (List.mem_of_getElem? (i := 695) (by decide +kernel)) rfl
theorem ws_X9_sillsThatRead : Cond.selects RX9 yX9_sillsThatRead yX9_sillsThatRead ∈ gtb := gtb_in (List.mem_of_getElem? (i := 23) (by decide +kernel)) rfl
abbrev mX9_fewestThatTell : MI := (yX9_fewestThatTell, cX9_fewestThatTell, 5, some .int)
theorem wc_X9_fewestThatTell : Cond.code mX9_fewestThatTell.1 mX9_fewestThatTell.2.1 mX9_fewestThatTell.2.2.1 mX9_fewestThatTell.2.2.2 ∈ gtb := gtb_in (List.mem_of_getElem? (i := 704) (by decide +kernel)) rfl
theorem wi_X9_fewestThatTell : Cond.instanceMethod yX9_fewestThatTell ∈ gtb := gtb_in (List.mem_of_getElem? (i := 703) (by decide +kernel)) rfl
theorem ws_X9_fewestThatTell : Cond.selects RX9 yX9_fewestThatTell yX9_fewestThatTell ∈ gtb := gtb_in (List.mem_of_getElem? (i := 24) (by decide +kernel)) rfl
abbrev mX9_readOf : MI := (yX9_readOf, cX9_readOf, 4, some .int)
theorem wc_X9_readOf : Cond.code mX9_readOf.1 mX9_readOf.2.1 mX9_readOf.2.2.1 mX9_readOf.2.2.2 ∈ gtb := gtb_in (List.mem_of_getElem? (i := 714) (by decide +kernel)) rfl
theorem wi_X9_readOf : Cond.instanceMethod yX9_readOf ∈ gtb := gtb_in (List.mem_of_getElem? (i := 713) (by decide +kernel)) rfl
theorem ws_X9_readOf : Cond.selects RX9 yX9_readOf yX9_readOf ∈ gtb := gtb_in (List.mem_of_getElem? (i := 25) (by decide +kernel)) rfl
abbrev mX9_weightOf : MI := (yX9_weightOf, cX9_weightOf, 6, some .int)
theorem wc_X9_weightOf : Cond.code mX9_weightOf.1 mX9_weightOf.2.1 mX9_weightOf.2.2.1 mX9_weightOf.2.2.2 ∈ gtb := gtb_in (List.mem_of_getElem? (i := 817) (by decide +kernel)) rfl
theorem wi_X9_weightOf : Cond.instanceMethod yX9_weightOf ∈ gtb := gtb_in (List.mem_of_getElem? (i := 816) (by decide +kernel)) rfl
theorem ws_X9_weightOf : Cond.selects RX9 yX9_weightOf yX9_weightOf ∈ gtb := gtb_in (List.mem_of_getElem? (i := 36) (by decide +kernel)) rfl
abbrev mX9_greatestCommon : MI := (yX9_greatestCommon, cX9_greatestCommon, 6, some .int)
theorem wc_X9_greatestCommon : Cond.code mX9_greatestCommon.1 mX9_greatestCommon.2.1 mX9_greatestCommon.2.2.1 mX9_greatestCommon.2.2.2 ∈ gtb := gtb_in (List.mem_of_getElem? (i := 820) (by decide +kernel)) rfl
theorem wst_X9_greatestCommon : Cond.static yX9_greatestCommon ∈ gtb := gtb_in (List.mem_of_getElem? (i := 819) (by decide +kernel)) rfl
abbrev mX9_measureAlike : MI := (yX9_measureAlike, cX9_measureAlike, 6, none)
theorem wc_X9_measureAlike : Cond.code mX9_measureAlike.1 mX9_measureAlike.2.1 mX9_measureAlike.2.2.1 mX9_measureAlike.2.2.2 ∈ gtb := gtb_in (List.mem_of_getElem? (i := 792) (by decide +kernel)) rfl
theorem wi_X9_measureAlike : Cond.instanceMethod yX9_measureAlike ∈ gtb := gtb_in (List.mem_of_getElem? (i := 791) (by decide +kernel)) rfl
theorem ws_X9_measureAlike : Cond.selects RX9 yX9_measureAlike yX9_measureAlike ∈ gtb := gtb_in (List.mem_of_getElem? (i := 32) (by decide +kernel)) rfl
abbrev mX9_longestFrom : MI := (yX9_longestFrom, cX9_longestFrom, 4, some .int)
theorem wc_X9_longestFrom : Cond.code mX9_longestFrom.1 mX9_longestFrom.2.1 mX9_longestFrom.2.2.1 mX9_longestFrom.2.2.2 ∈ gtb := gtb_in (List.mem_of_getElem? (i := 796) (by decide +kernel)) rfl
theorem wi_X9_longestFrom : Cond.instanceMethod yX9_longestFrom ∈ gtb := gtb_in (List.mem_of_getElem? (i := 795) (by decide +kernel)) rfl
theorem ws_X9_longestFrom : Cond.selects RX9 yX9_longestFrom yX9_longestFrom ∈ gtb := gtb_in (List.mem_of_getElem? (i := 33) (by decide +kernel)) rfl
abbrev mX9_kthAlike : MI := (yX9_kthAlike, cX9_kthAlike, 8, some .int)
theorem wc_X9_kthAlike : Cond.code mX9_kthAlike.1 mX9_kthAlike.2.1 mX9_kthAlike.2.2.1 mX9_kthAlike.2.2.2 ∈ gtb := gtb_in (List.mem_of_getElem? (i := 801) (by decide +kernel)) rfl
theorem wi_X9_kthAlike : Cond.instanceMethod yX9_kthAlike ∈ gtb := gtb_in (List.mem_of_getElem? (i := 800) (by decide +kernel)) rfl
theorem ws_X9_kthAlike : Cond.selects RX9 yX9_kthAlike yX9_kthAlike ∈ gtb := gtb_in (List.mem_of_getElem? (i := 34) (by decide +kernel)) rfl
abbrev mX9_nextAlike : MI := (yX9_nextAlike, cX9_nextAlike, 8, some .int)
theorem wc_X9_nextAlike : Cond.code mX9_nextAlike.1 mX9_nextAlike.2.1 mX9_nextAlike.2.2.1 mX9_nextAlike.2.2.2 ∈ gtb := gtb_in (List.mem_of_getElem? (i := 805) (by decide +kernel)) rfl
theorem wi_X9_nextAlike : Cond.instanceMethod yX9_nextAlike ∈ gtb := gtb_in (List.mem_of_getElem? (i := 804) (by decide +kernel)) rfl
theorem ws_X9_nextAlike : Cond.selects RX9 yX9_nextAlike yX9_nextAlike ∈ gtb := gtb_in (List.mem_of_getElem? (i := 35) (by decide +kernel)) rfl
abbrev mX10_init : MI := (yX10_init, cX10_init, 1, none)
theorem wc_X10_init : Cond.code mX10_init.1 mX10_init.2.1 mX10_init.2.2.1 mX10_init.2.2.2 ∈ gtb := gtb_in (List.mem_of_getElem? (i := 950) (by decide +kernel)) rfl
theorem wi_X10_init : Cond.instanceMethod yX10_init ∈ gtb := gtb_in (List.mem_of_getElem? (i := 949) (by decide +kernel)) rfl
abbrev mX10_in : MI := (yX10_in, cX10_in, 3, some .boolean)
theorem wc_X10_in : Cond.code mX10_in.1 mX10_in.2.1 mX10_in.2.2.1 mX10_in.2.2.2 ∈ gtb := gtb_in (List.mem_of_getElem? (i := 1118) (by decide +kernel)) rfl
theorem wst_X10_in : Cond.static yX10_in ∈ gtb := gtb_in (List.mem_of_getElem? (i := 1117) (by decide +kernel)) rfl
abbrev mX10_bitsOf : MI := (yX10_bitsOf, cX10_bitsOf, 3, some .int)
theorem wc_X10_bitsOf : Cond.code mX10_bitsOf.1 mX10_bitsOf.2.1 mX10_bitsOf.2.2.1 mX10_bitsOf.2.2.2 ∈ gtb := gtb_in (List.mem_of_getElem? (i := 1326) (by decide +kernel)) rfl
theorem wst_X10_bitsOf : Cond.static yX10_bitsOf ∈ gtb := gtb_in (List.mem_of_getElem? (i := 1325) (by decide +kernel)) rfl
abbrev mX10_isSill : MI := (yX10_isSill, cX10_isSill, 2, some .boolean)
theorem wc_X10_isSill : Cond.code mX10_isSill.1 mX10_isSill.2.1 mX10_isSill.2.2.1 mX10_isSill.2.2.2 ∈ gtb := gtb_in (List.mem_of_getElem? (i := 1153) (by decide +kernel)) rfl
theorem wi_X10_isSill : Cond.instanceMethod yX10_isSill ∈ gtb := gtb_in (List.mem_of_getElem? (i := 1152) (by decide +kernel)) rfl
theorem ws_X10_isSill : Cond.selects RX10 yX10_isSill yX10_isSill ∈ gtb := gtb_in (List.mem_of_getElem? (i := 43) (by decide +kernel)) rfl
abbrev mX10_isPerson : MI := (yX10_isPerson, cX10_isPerson, 1, some .boolean)
theorem wc_X10_isPerson : Cond.code mX10_isPerson.1 mX10_isPerson.2.1 mX10_isPerson.2.2.1 mX10_isPerson.2.2.2 ∈ gtb := gtb_in (List.mem_of_getElem? (i := 1156) (by decide +kernel)) rfl
theorem wst_X10_isPerson : Cond.static yX10_isPerson ∈ gtb := gtb_in (List.mem_of_getElem? (i := 1155) (by decide +kernel)) rfl
abbrev mX10_addSill : MI := (yX10_addSill, cX10_addSill, 3, some .int)
theorem wc_X10_addSill : Cond.code mX10_addSill.1 mX10_addSill.2.1 mX10_addSill.2.2.1 mX10_addSill.2.2.2 ∈ gtb := gtb_in (List.mem_of_getElem? (i := 1122) (by decide +kernel)) rfl
theorem wi_X10_addSill : Cond.instanceMethod yX10_addSill ∈ gtb := gtb_in (List.mem_of_getElem? (i := 1121) (by decide +kernel)) rfl
theorem ws_X10_addSill : Cond.selects RX10 yX10_addSill yX10_addSill ∈ gtb := gtb_in (List.mem_of_getElem? (i := 40) (by decide +kernel)) rfl
abbrev mX10_sill : MI := (yX10_sill, cX10_sill, 3, some .int)
theorem wc_X10_sill : Cond.code mX10_sill.1 mX10_sill.2.1 mX10_sill.2.2.1 mX10_sill.2.2.2 ∈ gtb := gtb_in (List.mem_of_getElem? (i := 1115) (by decide +kernel)) rfl
theorem wi_X10_sill : Cond.instanceMethod yX10_sill ∈ gtb := gtb_in (List.mem_of_getElem? (i := 1113) (by decide +kernel)) rfl
theorem ws_X10_sill : Cond.selects RX10 yX10_sill yX10_sill ∈ gtb := gtb_in (List.mem_of_getElem? (i := 1114) (by decide +kernel)) rfl
abbrev mX10_sills : MI := (yX10_sills, cX10_sills, 8, some .int)
theorem wc_X10_sills : Cond.code mX10_sills.1 mX10_sills.2.1 mX10_sills.2.2.1 mX10_sills.2.2.2 ∈ gtb := gtb_in (List.mem_of_getElem? (i := 1126) (by decide +kernel)) rfl
theorem wi_X10_sills : Cond.instanceMethod yX10_sills ∈ gtb := gtb_in (List.mem_of_getElem? (i := 1124) (by decide +kernel)) rfl
theorem ws_X10_sills : Cond.selects RX10 yX10_sills yX10_sills ∈ gtb := gtb_in (List.mem_of_getElem? (i := 1125) (by decide +kernel)) rfl
abbrev mX10_valueAt : MI := (yX10_valueAt, cX10_valueAt, 3, some .int)
theorem wc_X10_valueAt : Cond.code mX10_valueAt.1 mX10_valueAt.2.1 mX10_valueAt.2.2.1 mX10_valueAt.2.2.2 ∈ gtb := gtb_in (List.mem_of_getElem? (i := 1167) (by decide +kernel)) rfl
theorem wi_X10_valueAt : Cond.instanceMethod yX10_valueAt ∈ gtb := gtb_in (List.mem_of_getElem? (i := 1166) (by decide +kernel)) rfl
theorem ws_X10_valueAt : Cond.selects RX10 yX10_valueAt yX10_valueAt ∈ gtb := gtb_in (List.mem_of_getElem? (i := 45) (by decide +kernel)) rfl
abbrev mX10_lays1 : MI := (yX10_lays1, cX10_lays1, 4, none)
theorem wc_X10_lays1 : Cond.code mX10_lays1.1 mX10_lays1.2.1 mX10_lays1.2.2.1 mX10_lays1.2.2.2 ∈ gtb := gtb_in (List.mem_of_getElem? (i := 1137) (by decide +kernel)) rfl
theorem wi_X10_lays1 : Cond.instanceMethod yX10_lays1 ∈ gtb := gtb_in (List.mem_of_getElem? (i := 1136) (by decide +kernel)) rfl
theorem ws_X10_lays1 : Cond.selects RX10 yX10_lays1 yX10_lays1 ∈ gtb := gtb_in (List.mem_of_getElem? (i := 41) (by decide +kernel)) rfl
abbrev mX10_changes : MI := (yX10_changes, cX10_changes, 6, some .int)
theorem wc_X10_changes : Cond.code mX10_changes.1 mX10_changes.2.1 mX10_changes.2.2.1 mX10_changes.2.2.2 ∈ gtb := gtb_in (List.mem_of_getElem? (i := 1163) (by decide +kernel)) rfl
theorem wi_X10_changes : Cond.instanceMethod yX10_changes ∈ gtb := gtb_in (List.mem_of_getElem? (i := 1162) (by decide +kernel)) rfl
theorem ws_X10_changes : Cond.selects RX10 yX10_changes yX10_changes ∈ gtb := gtb_in (List.mem_of_getElem? (i := 44) (by decide +kernel)) rfl
abbrev mX10_undo : MI := (yX10_undo, cX10_undo, 1, some .int)
theorem wc_X10_undo : Cond.code mX10_undo.1 mX10_undo.2.1 mX10_undo.2.2.1 mX10_undo.2.2.2 ∈ gtb := gtb_in (List.mem_of_getElem? (i := 1133) (by decide +kernel)) rfl
theorem wi_X10_undo : Cond.instanceMethod yX10_undo ∈ gtb := gtb_in (List.mem_of_getElem? (i := 1131) (by decide +kernel)) rfl
theorem ws_X10_undo : Cond.selects RX10 yX10_undo yX10_undo ∈ gtb := gtb_in (List.mem_of_getElem? (i := 1132) (by decide +kernel)) rfl
abbrev mX10_redo : MI := (yX10_redo, cX10_redo, 1, some .int)
theorem wc_X10_redo : Cond.code mX10_redo.1 mX10_redo.2.1 mX10_redo.2.2.1 mX10_redo.2.2.2 ∈ gtb := gtb_in (List.mem_of_getElem? (i := 1141) (by decide +kernel)) rfl
theorem wi_X10_redo : Cond.instanceMethod yX10_redo ∈ gtb := gtb_in (List.mem_of_getElem? (i := 1139) (by decide +kernel)) rfl
theorem ws_X10_redo : Cond.selects RX10 yX10_redo yX10_redo ∈ gtb := gtb_in (List.mem_of_getElem? (i := 1140) (by decide +kernel)) rfl
abbrev mX10_isOne : MI := (yX10_isOne, cX10_isOne, 3, some .boolean)
theorem wc_X10_isOne : Cond.code mX10_isOne.1 mX10_isOne.2.1 mX10_isOne.2.2.1 mX10_isOne.2.2.2 ∈ gtb := gtb_in (List.mem_of_getElem? (i := 1149) (by decide +kernel)) rfl
theorem wi_X10_isOne : Cond.instanceMethod yX10_isOne ∈ gtb := gtb_in (List.mem_of_getElem? (i := 1148) (by decide +kernel)) rfl
theorem ws_X10_isOne : Cond.selects RX10 yX10_isOne yX10_isOne ∈ gtb := gtb_in (List.mem_of_getElem? (i := 42) (by decide +kernel)) rfl
abbrev mX10_mayHave : MI := (yX10_mayHave, cX10_mayHave, 2, some .boolean)
theorem wc_X10_mayHave : Cond.code mX10_mayHave.1 mX10_mayHave.2.1 mX10_mayHave.2.2.1 mX10_mayHave.2.2.2 ∈ gtb := gtb_in (List.mem_of_getElem? (i := 1159) (by decide +kernel)) rfl
theorem wst_X10_mayHave : Cond.static yX10_mayHave ∈ gtb := gtb_in (List.mem_of_getElem? (i := 1158) (by decide +kernel)) rfl
abbrev mX10_mend : MI := (yX10_mend, cX10_mend, 4, some .int)
theorem wc_X10_mend : Cond.code mX10_mend.1 mX10_mend.2.1 mX10_mend.2.2.1 mX10_mend.2.2.2 ∈ gtb := gtb_in (List.mem_of_getElem? (i := 1145) (by decide +kernel)) rfl
theorem wi_X10_mend : Cond.instanceMethod yX10_mend ∈ gtb := gtb_in (List.mem_of_getElem? (i := 1143) (by decide +kernel)) rfl
theorem ws_X10_mend : Cond.selects RX10 yX10_mend yX10_mend ∈ gtb := gtb_in (List.mem_of_getElem? (i := 1144) (by decide +kernel)) rfl
abbrev mX10_of : MI := (yX10_of, cX10_of, 3, some .int)
theorem wc_X10_of : Cond.code mX10_of.1 mX10_of.2.1 mX10_of.2.2.1 mX10_of.2.2.2 ∈ gtb := gtb_in (List.mem_of_getElem? (i := 1171) (by decide +kernel)) rfl
theorem wi_X10_of : Cond.instanceMethod yX10_of ∈ gtb := gtb_in (List.mem_of_getElem? (i := 1169) (by decide +kernel)) rfl
theorem ws_X10_of : Cond.selects RX10 yX10_of yX10_of ∈ gtb := gtb_in (List.mem_of_getElem? (i := 1170) (by decide +kernel)) rfl
abbrev mX10_layer : MI := (yX10_layer, cX10_layer, 4, some .int)
theorem wc_X10_layer : Cond.code mX10_layer.1 mX10_layer.2.1 mX10_layer.2.2.1 mX10_layer.2.2.2 ∈ gtb := gtb_in (List.mem_of_getElem? (i := 1183) (by decide +kernel)) rfl
theorem wi_X10_layer : Cond.instanceMethod yX10_layer ∈ gtb := gtb_in (List.mem_of_getElem? (i := 1181) (by decide +kernel)) rfl
theorem ws_X10_layer : Cond.selects RX10 yX10_layer yX10_layer ∈ gtb := gtb_in (List.mem_of_getElem? (i := 1182) (by decide +kernel)) rfl
abbrev mX10_feed : MI := (yX10_feed, cX10_feed, 2, some .int)
theorem wc_X10_feed : Cond.code mX10_feed.1 mX10_feed.2.1 mX10_feed.2.2.1 mX10_feed.2.2.2 ∈ gtb := gtb_in (List.mem_of_getElem? (i := 1187) (by decide +kernel)) rfl
theorem wi_X10_feed : Cond.instanceMethod yX10_feed ∈ gtb := gtb_in (List.mem_of_getElem? (i := 1185) (by decide +kernel)) rfl
theorem ws_X10_feed : Cond.selects RX10 yX10_feed yX10_feed ∈ gtb := gtb_in (List.mem_of_getElem? (i := 1186) (by decide +kernel)) rfl
abbrev mX10_looksOn : MI := (yX10_looksOn, cX10_looksOn, 1, some .int)
theorem wc_X10_looksOn : Cond.code mX10_looksOn.1 mX10_looksOn.2.1 mX10_looksOn.2.2.1 mX10_looksOn.2.2.2 ∈ gtb := gtb_in (List.mem_of_getElem? (i := 1227) (by decide +kernel)) rfl
theorem wi_X10_looksOn : Cond.instanceMethod yX10_looksOn ∈ gtb := gtb_in (List.mem_of_getElem? (i := 1226) (by decide +kernel)) rfl
theorem ws_X10_looksOn : Cond.selects RX10 yX10_looksOn yX10_looksOn ∈ gtb := gtb_in (List.mem_of_getElem? (i := 56) (by decide +kernel)) rfl
abbrev mX10_wrong : MI := (yX10_wrong, cX10_wrong, 1, none)
theorem wc_X10_wrong : Cond.code mX10_wrong.1 mX10_wrong.2.1 mX10_wrong.2.2.1 mX10_wrong.2.2.2 ∈ gtb := gtb_in (List.mem_of_getElem? (i := 1242) (by decide +kernel)) rfl
theorem wi_X10_wrong : Cond.instanceMethod yX10_wrong ∈ gtb := gtb_in (List.mem_of_getElem? (i := 1241) (by decide +kernel)) rfl
theorem ws_X10_wrong : Cond.selects RX10 yX10_wrong yX10_wrong ∈ gtb := gtb_in (List.mem_of_getElem? (i := 59) (by decide +kernel)) rfl
abbrev mX10_addStep : MI := (yX10_addStep, cX10_addStep, 3, none)
theorem wc_X10_addStep : Cond.code mX10_addStep.1 mX10_addStep.2.1 mX10_addStep.2.2.1 mX10_addStep.2.2.2 ∈ gtb := gtb_in (List.mem_of_getElem? (i := 1234) (by decide +kernel)) rfl
theorem wi_X10_addStep : Cond.instanceMethod yX10_addStep ∈ gtb := gtb_in (List.mem_of_getElem? (i := 1233) (by decide +kernel)) rfl
theorem ws_X10_addStep : Cond.selects RX10 yX10_addStep yX10_addStep ∈ gtb := gtb_in (List.mem_of_getElem? (i := 57) (by decide +kernel)) rfl
abbrev mX10_nameOf : MI := (yX10_nameOf, cX10_nameOf, 1, some .int)
theorem wc_X10_nameOf : Cond.code mX10_nameOf.1 mX10_nameOf.2.1 mX10_nameOf.2.2.1 mX10_nameOf.2.2.2 ∈ gtb := gtb_in (List.mem_of_getElem? (i := 1230) (by decide +kernel)) rfl
theorem wst_X10_nameOf : Cond.static yX10_nameOf ∈ gtb := gtb_in (List.mem_of_getElem? (i := 1229) (by decide +kernel)) rfl
abbrev mX10_opens : MI := (yX10_opens, cX10_opens, 1, some .boolean)
theorem wc_X10_opens : Cond.code mX10_opens.1 mX10_opens.2.1 mX10_opens.2.2.1 mX10_opens.2.2.2 ∈ gtb := gtb_in (List.mem_of_getElem? (i := 1238) (by decide +kernel)) rfl
theorem wi_X10_opens : Cond.instanceMethod yX10_opens ∈ gtb := gtb_in (List.mem_of_getElem? (i := 1237) (by decide +kernel)) rfl
theorem ws_X10_opens : Cond.selects RX10 yX10_opens yX10_opens ∈ gtb := gtb_in (List.mem_of_getElem? (i := 58) (by decide +kernel)) rfl
abbrev mX10_figure : MI := (yX10_figure, cX10_figure, 3, none)
theorem wc_X10_figure : Cond.code mX10_figure.1 mX10_figure.2.1 mX10_figure.2.2.1 mX10_figure.2.2.2 ∈ gtb := gtb_in (List.mem_of_getElem? (i := 1246) (by decide +kernel)) rfl
theorem wi_X10_figure : Cond.instanceMethod yX10_figure ∈ gtb := gtb_in (List.mem_of_getElem? (i := 1245) (by decide +kernel)) rfl
theorem ws_X10_figure : Cond.selects RX10 yX10_figure yX10_figure ∈ gtb := gtb_in (List.mem_of_getElem? (i := 60) (by decide +kernel)) rfl
abbrev mX10_operand : MI := (yX10_operand, cX10_operand, 2, none)
theorem wc_X10_operand : Cond.code mX10_operand.1 mX10_operand.2.1 mX10_operand.2.2.1 mX10_operand.2.2.2 ∈ gtb := gtb_in (List.mem_of_getElem? (i := 1223) (by decide +kernel)) rfl
theorem wi_X10_operand : Cond.instanceMethod yX10_operand ∈ gtb := gtb_in (List.mem_of_getElem? (i := 1222) (by decide +kernel)) rfl
theorem ws_X10_operand : Cond.selects RX10 yX10_operand yX10_operand ∈ gtb := gtb_in (List.mem_of_getElem? (i := 55) (by decide +kernel)) rfl
abbrev mX10_product : MI := (yX10_product, cX10_product, 2, none)
theorem wc_X10_product : Cond.code mX10_product.1 mX10_product.2.1 mX10_product.2.2.1 mX10_product.2.2.2 ∈ gtb := gtb_in (List.mem_of_getElem? (i := 1219) (by decide +kernel)) rfl
theorem wi_X10_product : Cond.instanceMethod yX10_product ∈ gtb := gtb_in (List.mem_of_getElem? (i := 1218) (by decide +kernel)) rfl
theorem ws_X10_product : Cond.selects RX10 yX10_product yX10_product ∈ gtb := gtb_in (List.mem_of_getElem? (i := 54) (by decide +kernel)) rfl
abbrev mX10_sum : MI := (yX10_sum, cX10_sum, 2, none)
theorem wc_X10_sum : Cond.code mX10_sum.1 mX10_sum.2.1 mX10_sum.2.2.1 mX10_sum.2.2.2 ∈ gtb := gtb_in (List.mem_of_getElem? (i := 1215) (by decide +kernel)) rfl
theorem wi_X10_sum : Cond.instanceMethod yX10_sum ∈ gtb := gtb_in (List.mem_of_getElem? (i := 1214) (by decide +kernel)) rfl
theorem ws_X10_sum : Cond.selects RX10 yX10_sum yX10_sum ∈ gtb := gtb_in (List.mem_of_getElem? (i := 53) (by decide +kernel)) rfl
abbrev mX10_compared : MI := (yX10_compared, cX10_compared, 2, none)
theorem wc_X10_compared : Cond.code mX10_compared.1 mX10_compared.2.1 mX10_compared.2.2.1 mX10_compared.2.2.2 ∈ gtb := gtb_in (List.mem_of_getElem? (i := 1211) (by decide +kernel)) rfl
theorem wi_X10_compared : Cond.instanceMethod yX10_compared ∈ gtb := gtb_in (List.mem_of_getElem? (i := 1210) (by decide +kernel)) rfl
theorem ws_X10_compared : Cond.selects RX10 yX10_compared yX10_compared ∈ gtb := gtb_in (List.mem_of_getElem? (i := 52) (by decide +kernel)) rfl
abbrev mX10_both : MI := (yX10_both, cX10_both, 1, none)
theorem wc_X10_both : Cond.code mX10_both.1 mX10_both.2.1 mX10_both.2.2.1 mX10_both.2.2.2 ∈ gtb := gtb_in (List.mem_of_getElem? (i := 1207) (by decide +kernel)) rfl
theorem wi_X10_both : Cond.instanceMethod yX10_both ∈ gtb := gtb_in (List.mem_of_getElem? (i := 1206) (by decide +kernel)) rfl
theorem ws_X10_both : Cond.selects RX10 yX10_both yX10_both ∈ gtb := gtb_in (List.mem_of_getElem? (i := 51) (by decide +kernel)) rfl
abbrev mX10_either : MI := (yX10_either, cX10_either, 1, none)
theorem wc_X10_either : Cond.code mX10_either.1 mX10_either.2.1 mX10_either.2.2.1 mX10_either.2.2.2 ∈ gtb := gtb_in (List.mem_of_getElem? (i := 1203) (by decide +kernel)) rfl
theorem wi_X10_either : Cond.instanceMethod yX10_either ∈ gtb := gtb_in (List.mem_of_getElem? (i := 1202) (by decide +kernel)) rfl
theorem ws_X10_either : Cond.selects RX10 yX10_either yX10_either ∈ gtb := gtb_in (List.mem_of_getElem? (i := 50) (by decide +kernel)) rfl
abbrev mX10_line : MI := (yX10_line, cX10_line, 2, none)
theorem wc_X10_line : Cond.code mX10_line.1 mX10_line.2.1 mX10_line.2.2.1 mX10_line.2.2.2 ∈ gtb := gtb_in (List.mem_of_getElem? (i := 1199) (by decide +kernel)) rfl
theorem wi_X10_line : Cond.instanceMethod yX10_line ∈ gtb := gtb_in (List.mem_of_getElem? (i := 1198) (by decide +kernel)) rfl
theorem ws_X10_line : Cond.selects RX10 yX10_line yX10_line ∈ gtb := gtb_in (List.mem_of_getElem? (i := 49) (by decide +kernel)) rfl
abbrev mX10_readText : MI := (yX10_readText, cX10_readText, 3, some .int)
theorem wc_X10_readText : Cond.code mX10_readText.1 mX10_readText.2.1 mX10_readText.2.2.1 mX10_readText.2.2.2 ∈ gtb := gtb_in (List.mem_of_getElem? (i := 1195) (by decide +kernel)) rfl
theorem wi_X10_readText : Cond.instanceMethod yX10_readText ∈ gtb := gtb_in (List.mem_of_getElem? (i := 1194) (by decide +kernel)) rfl
theorem ws_X10_readText : Cond.selects RX10 yX10_readText yX10_readText ∈ gtb := gtb_in (List.mem_of_getElem? (i := 48) (by decide +kernel)) rfl
abbrev mX10_twoOf : MI := (yX10_twoOf, cX10_twoOf, 3, some .int)
theorem wc_X10_twoOf : Cond.code mX10_twoOf.1 mX10_twoOf.2.1 mX10_twoOf.2.2.1 mX10_twoOf.2.2.2 ∈ gtb := gtb_in (List.mem_of_getElem? (i := 1273) (by decide +kernel)) rfl
theorem wst_X10_twoOf : Cond.static yX10_twoOf ∈ gtb := gtb_in (List.mem_of_getElem? (i := 1272) (by decide +kernel)) rfl
abbrev mX10_worked : MI := (yX10_worked, cX10_worked, 7, some .int)
theorem wc_X10_worked : Cond.code mX10_worked.1 mX10_worked.2.1 mX10_worked.2.2.1 mX10_worked.2.2.2 ∈ gtb := gtb_in (List.mem_of_getElem? (i := 1270) (by decide +kernel)) rfl
theorem wi_X10_worked : Cond.instanceMethod yX10_worked ∈ gtb := gtb_in (List.mem_of_getElem? (i := 1269) (by decide +kernel)) rfl
theorem ws_X10_worked : Cond.selects RX10 yX10_worked yX10_worked ∈ gtb := gtb_in (List.mem_of_getElem? (i := 65) (by decide +kernel)) rfl
abbrev mX10_gives : MI := (yX10_gives, cX10_gives, 4, some .int)
theorem wc_X10_gives : Cond.code mX10_gives.1 mX10_gives.2.1 mX10_gives.2.2.1 mX10_gives.2.2.2 ∈ gtb := gtb_in (List.mem_of_getElem? (i := 1266) (by decide +kernel)) rfl
theorem wi_X10_gives : Cond.instanceMethod yX10_gives ∈ gtb := gtb_in (List.mem_of_getElem? (i := 1265) (by decide +kernel)) rfl
theorem ws_X10_gives : Cond.selects RX10 yX10_gives yX10_gives ∈ gtb := gtb_in (List.mem_of_getElem? (i := 64) (by decide +kernel)) rfl
abbrev mX10_law : MI := (yX10_law, cX10_law, 2, some .int)
theorem wc_X10_law : Cond.code mX10_law.1 mX10_law.2.1 mX10_law.2.2.1 mX10_law.2.2.2 ∈ gtb := gtb_in (List.mem_of_getElem? (i := 1191) (by decide +kernel)) rfl
theorem wi_X10_law : Cond.instanceMethod yX10_law ∈ gtb := gtb_in (List.mem_of_getElem? (i := 1189) (by decide +kernel)) rfl
theorem ws_X10_law : Cond.selects RX10 yX10_law yX10_law ∈ gtb := gtb_in (List.mem_of_getElem? (i := 1190) (by decide +kernel)) rfl
abbrev mX10_laysBy : MI := (yX10_laysBy, cX10_laysBy, 6, some .int)
theorem wc_X10_laysBy : Cond.code mX10_laysBy.1 mX10_laysBy.2.1 mX10_laysBy.2.2.1 mX10_laysBy.2.2.2 ∈ gtb := gtb_in (List.mem_of_getElem? (i := 1262) (by decide +kernel)) rfl
theorem wi_X10_laysBy : Cond.instanceMethod yX10_laysBy ∈ gtb := gtb_in (List.mem_of_getElem? (i := 1261) (by decide +kernel)) rfl
theorem ws_X10_laysBy : Cond.selects RX10 yX10_laysBy yX10_laysBy ∈ gtb := gtb_in (List.mem_of_getElem? (i := 63) (by decide +kernel)) rfl
abbrev mX10_whomIn : MI := (yX10_whomIn, cX10_whomIn, 2, some .int)
theorem wc_X10_whomIn : Cond.code mX10_whomIn.1 mX10_whomIn.2.1 mX10_whomIn.2.2.1 mX10_whomIn.2.2.2 ∈ gtb := gtb_in (List.mem_of_getElem? (i := 1254) (by decide +kernel)) rfl
theorem wi_X10_whomIn : Cond.instanceMethod yX10_whomIn ∈ gtb := gtb_in (List.mem_of_getElem? (i := 1253) (by decide +kernel)) rfl
theorem ws_X10_whomIn : Cond.selects RX10 yX10_whomIn yX10_whomIn ∈ gtb := gtb_in (List.mem_of_getElem? (i := 61) (by decide +kernel)) rfl
abbrev mX10_muchIn : MI := (yX10_muchIn, cX10_muchIn, 2, some .int)
theorem wc_X10_muchIn : Cond.code mX10_muchIn.1 mX10_muchIn.2.1 mX10_muchIn.2.2.1 mX10_muchIn.2.2.2 ∈ gtb := gtb_in (List.mem_of_getElem? (i := 1258) (by decide +kernel)) rfl
theorem wi_X10_muchIn : Cond.instanceMethod yX10_muchIn ∈ gtb := gtb_in (List.mem_of_getElem? (i := 1257) (by decide +kernel)) rfl
theorem ws_X10_muchIn : Cond.selects RX10 yX10_muchIn yX10_muchIn ∈ gtb := gtb_in (List.mem_of_getElem? (i := 62) (by decide +kernel)) rfl
abbrev mX10_lays : MI := (yX10_lays, cX10_lays, 3, some .int)
theorem wc_X10_lays : Cond.code mX10_lays.1 mX10_lays.2.1 mX10_lays.2.2.1 mX10_lays.2.2.2 ∈ gtb := gtb_in (List.mem_of_getElem? (i := 1250) (by decide +kernel)) rfl
theorem wi_X10_lays : Cond.instanceMethod yX10_lays ∈ gtb := gtb_in (List.mem_of_getElem? (i := 1248) (by decide +kernel)) rfl
theorem ws_X10_lays : Cond.selects RX10 yX10_lays yX10_lays ∈ gtb := gtb_in (List.mem_of_getElem? (i := 1249) (by decide +kernel)) rfl
abbrev mX10_layNow : MI := (yX10_layNow, cX10_layNow, 3, none)
theorem wc_X10_layNow : Cond.code mX10_layNow.1 mX10_layNow.2.1 mX10_layNow.2.2.1 mX10_layNow.2.2.2 ∈ gtb := gtb_in (List.mem_of_getElem? (i := 1175) (by decide +kernel)) rfl
theorem wi_X10_layNow : Cond.instanceMethod yX10_layNow ∈ gtb := gtb_in (List.mem_of_getElem? (i := 1174) (by decide +kernel)) rfl
theorem ws_X10_layNow : Cond.selects RX10 yX10_layNow yX10_layNow ∈ gtb := gtb_in (List.mem_of_getElem? (i := 46) (by decide +kernel)) rfl
abbrev mX10_heldTo : MI := (yX10_heldTo, cX10_heldTo, 1, some .int)
theorem wc_X10_heldTo : Cond.code mX10_heldTo.1 mX10_heldTo.2.1 mX10_heldTo.2.2.1 mX10_heldTo.2.2.2 ∈ gtb := gtb_in (List.mem_of_getElem? (i := 1299) (by decide +kernel)) rfl
theorem wst_X10_heldTo : Cond.static yX10_heldTo ∈ gtb := gtb_in (List.mem_of_getElem? (i := 1298) (by decide +kernel)) rfl
abbrev mX10_pressLowest : MI := (yX10_pressLowest, cX10_pressLowest, 2, none)
theorem wc_X10_pressLowest : Cond.code mX10_pressLowest.1 mX10_pressLowest.2.1 mX10_pressLowest.2.2.1 mX10_pressLowest.2.2.2 ∈ gtb := gtb_in (List.mem_of_getElem? (i := 1303) (by decide +kernel)) rfl
theorem wi_X10_pressLowest : Cond.instanceMethod yX10_pressLowest ∈ gtb := gtb_in (List.mem_of_getElem? (i := 1302) (by decide +kernel)) rfl
theorem ws_X10_pressLowest : Cond.selects RX10 yX10_pressLowest yX10_pressLowest ∈ gtb := gtb_in (List.mem_of_getElem? (i := 70) (by decide +kernel)) rfl
abbrev mX10_goLook : MI := (yX10_goLook, cX10_goLook, 4, some .int)
theorem wc_X10_goLook : Cond.code mX10_goLook.1 mX10_goLook.2.1 mX10_goLook.2.2.1 mX10_goLook.2.2.2 ∈ gtb := gtb_in (List.mem_of_getElem? (i := 1296) (by decide +kernel)) rfl
theorem wi_X10_goLook : Cond.instanceMethod yX10_goLook ∈ gtb := gtb_in (List.mem_of_getElem? (i := 1295) (by decide +kernel)) rfl
theorem ws_X10_goLook : Cond.selects RX10 yX10_goLook yX10_goLook ∈ gtb := gtb_in (List.mem_of_getElem? (i := 69) (by decide +kernel)) rfl
abbrev mX10_thickerBy : MI := (yX10_thickerBy, cX10_thickerBy, 4, some .int)
theorem wc_X10_thickerBy : Cond.code mX10_thickerBy.1 mX10_thickerBy.2.1 mX10_thickerBy.2.2.1 mX10_thickerBy.2.2.2 ∈ gtb := gtb_in (List.mem_of_getElem? (i := 1473) (by decide +kernel)) rfl
theorem wi_X10_thickerBy : Cond.instanceMethod yX10_thickerBy ∈ gtb := gtb_in (List.mem_of_getElem? (i := 1472) (by decide +kernel)) rfl
theorem ws_X10_thickerBy : Cond.selects RX10 yX10_thickerBy yX10_thickerBy ∈ gtb := gtb_in (List.mem_of_getElem? (i := 91) (by decide +kernel)) rfl
abbrev mX10_allThick : MI := (yX10_allThick, cX10_allThick, 3, some .int)
theorem wc_X10_allThick : Cond.code mX10_allThick.1 mX10_allThick.2.1 mX10_allThick.2.2.1 mX10_allThick.2.2.2 ∈ gtb := gtb_in (List.mem_of_getElem? (i := 1179) (by decide +kernel)) rfl
theorem wi_X10_allThick : Cond.instanceMethod yX10_allThick ∈ gtb := gtb_in (List.mem_of_getElem? (i := 1178) (by decide +kernel)) rfl
theorem ws_X10_allThick : Cond.selects RX10 yX10_allThick yX10_allThick ∈ gtb := gtb_in (List.mem_of_getElem? (i := 47) (by decide +kernel)) rfl
abbrev mX10_thickBy : MI := (yX10_thickBy, cX10_thickBy, 4, some .int)
theorem wc_X10_thickBy : Cond.code mX10_thickBy.1 mX10_thickBy.2.1 mX10_thickBy.2.2.1 mX10_thickBy.2.2.2 ∈ gtb := gtb_in (List.mem_of_getElem? (i := 1315) (by decide +kernel)) rfl
theorem wi_X10_thickBy : Cond.instanceMethod yX10_thickBy ∈ gtb := gtb_in (List.mem_of_getElem? (i := 1314) (by decide +kernel)) rfl
theorem ws_X10_thickBy : Cond.selects RX10 yX10_thickBy yX10_thickBy ∈ gtb := gtb_in (List.mem_of_getElem? (i := 73) (by decide +kernel)) rfl
abbrev mX10_readNow : MI := (yX10_readNow, cX10_readNow, 3, some .int)
theorem wc_X10_readNow : Cond.code mX10_readNow.1 mX10_readNow.2.1 mX10_readNow.2.2.1 mX10_readNow.2.2.2 ∈ gtb := gtb_in (List.mem_of_getElem? (i := 1307) (by decide +kernel)) rfl
theorem wi_X10_readNow : Cond.instanceMethod yX10_readNow ∈ gtb := gtb_in (List.mem_of_getElem? (i := 1306) (by decide +kernel)) rfl
theorem ws_X10_readNow : Cond.selects RX10 yX10_readNow yX10_readNow ∈ gtb := gtb_in (List.mem_of_getElem? (i := 71) (by decide +kernel)) rfl
abbrev mX10_mostNow : MI := (yX10_mostNow, cX10_mostNow, 3, some .int)
theorem wc_X10_mostNow : Cond.code mX10_mostNow.1 mX10_mostNow.2.1 mX10_mostNow.2.2.1 mX10_mostNow.2.2.2 ∈ gtb := gtb_in (List.mem_of_getElem? (i := 1311) (by decide +kernel)) rfl
theorem wi_X10_mostNow : Cond.instanceMethod yX10_mostNow ∈ gtb := gtb_in (List.mem_of_getElem? (i := 1310) (by decide +kernel)) rfl
theorem ws_X10_mostNow : Cond.selects RX10 yX10_mostNow yX10_mostNow ∈ gtb := gtb_in (List.mem_of_getElem? (i := 72) (by decide +kernel)) rfl
abbrev mX10_rowFault : MI := (yX10_rowFault, cX10_rowFault, 2, some .int)
theorem wc_X10_rowFault : Cond.code mX10_rowFault.1 mX10_rowFault.2.1 mX10_rowFault.2.2.1 mX10_rowFault.2.2.2 ∈ gtb := gtb_in (List.mem_of_getElem? (i := 1284) (by decide +kernel)) rfl
theorem wi_X10_rowFault : Cond.instanceMethod yX10_rowFault ∈ gtb := gtb_in (List.mem_of_getElem? (i := 1283) (by decide +kernel)) rfl
theorem ws_X10_rowFault : Cond.selects RX10 yX10_rowFault yX10_rowFault ∈ gtb := gtb_in (List.mem_of_getElem? (i := 66) (by decide +kernel)) rfl
abbrev mX10_at : MI := (yX10_at, cX10_at, 3, some .int)
theorem wc_X10_at : Cond.code mX10_at.1 mX10_at.2.1 mX10_at.2.2.1 mX10_at.2.2.2 ∈ gtb := gtb_in (List.mem_of_getElem? (i := 1292) (by decide +kernel)) rfl
theorem wi_X10_at : Cond.instanceMethod yX10_at ∈ gtb := gtb_in (List.mem_of_getElem? (i := 1291) (by decide +kernel)) rfl
theorem ws_X10_at : Cond.selects RX10 yX10_at yX10_at ∈ gtb := gtb_in (List.mem_of_getElem? (i := 68) (by decide +kernel)) rfl
abbrev mX10_goBook : MI := (yX10_goBook, cX10_goBook, 5, none)
theorem wc_X10_goBook : Cond.code mX10_goBook.1 mX10_goBook.2.1 mX10_goBook.2.2.1 mX10_goBook.2.2.2 ∈ gtb := gtb_in (List.mem_of_getElem? (i := 1288) (by decide +kernel)) rfl
theorem wi_X10_goBook : Cond.instanceMethod yX10_goBook ∈ gtb := gtb_in (List.mem_of_getElem? (i := 1287) (by decide +kernel)) rfl
theorem ws_X10_goBook : Cond.selects RX10 yX10_goBook yX10_goBook ∈ gtb := gtb_in (List.mem_of_getElem? (i := 67) (by decide +kernel)) rfl
abbrev mX10_areMany : MI := (yX10_areMany, cX10_areMany, 1, some .boolean)
theorem wc_X10_areMany : Cond.code mX10_areMany.1 mX10_areMany.2.1 mX10_areMany.2.2.1 mX10_areMany.2.2.2 ∈ gtb := gtb_in (List.mem_of_getElem? (i := 1280) (by decide +kernel)) rfl
theorem wst_X10_areMany : Cond.static yX10_areMany ∈ gtb := gtb_in (List.mem_of_getElem? (i := 1279) (by decide +kernel)) rfl
abbrev mX10_later : MI := (yX10_later, cX10_later, 5, some .int)
theorem wc_X10_later : Cond.code mX10_later.1 mX10_later.2.1 mX10_later.2.2.1 mX10_later.2.2.2 ∈ gtb := gtb_in (List.mem_of_getElem? (i := 1277) (by decide +kernel)) rfl
theorem wi_X10_later : Cond.instanceMethod yX10_later ∈ gtb := gtb_in (List.mem_of_getElem? (i := 1275) (by decide +kernel)) rfl
theorem ws_X10_later : Cond.selects RX10 yX10_later yX10_later ∈ gtb := gtb_in (List.mem_of_getElem? (i := 1276) (by decide +kernel)) rfl
abbrev mX10_fromAbove : MI := (yX10_fromAbove, cX10_fromAbove, 4, some .int)
theorem wc_X10_fromAbove : Cond.code mX10_fromAbove.1 mX10_fromAbove.2.1 mX10_fromAbove.2.2.1 mX10_fromAbove.2.2.2 ∈ gtb := gtb_in (List.mem_of_getElem? (i := 1323) (by decide +kernel)) rfl
theorem wi_X10_fromAbove : Cond.instanceMethod yX10_fromAbove ∈ gtb := gtb_in (List.mem_of_getElem? (i := 1322) (by decide +kernel)) rfl
theorem ws_X10_fromAbove : Cond.selects RX10 yX10_fromAbove yX10_fromAbove ∈ gtb := gtb_in (List.mem_of_getElem? (i := 74) (by decide +kernel)) rfl
abbrev mX10_laid : MI := (yX10_laid, cX10_laid, 5, some .int)
theorem wc_X10_laid : Cond.code mX10_laid.1 mX10_laid.2.1 mX10_laid.2.2.1 mX10_laid.2.2.2 ∈ gtb := gtb_in (List.mem_of_getElem? (i := 1319) (by decide +kernel)) rfl
theorem wi_X10_laid : Cond.instanceMethod yX10_laid ∈ gtb := gtb_in (List.mem_of_getElem? (i := 1317) (by decide +kernel)) rfl
theorem ws_X10_laid : Cond.selects RX10 yX10_laid yX10_laid ∈ gtb := gtb_in (List.mem_of_getElem? (i := 1318) (by decide +kernel)) rfl
abbrev mX10_goBreath : MI := (yX10_goBreath, cX10_goBreath, 3, some .int)
theorem wc_X10_goBreath : Cond.code mX10_goBreath.1 mX10_goBreath.2.1 mX10_goBreath.2.2.1 mX10_goBreath.2.2.2 ∈ gtb := gtb_in (List.mem_of_getElem? (i := 1334) (by decide +kernel)) rfl
theorem wi_X10_goBreath : Cond.instanceMethod yX10_goBreath ∈ gtb := gtb_in (List.mem_of_getElem? (i := 1333) (by decide +kernel)) rfl
theorem ws_X10_goBreath : Cond.selects RX10 yX10_goBreath yX10_goBreath ∈ gtb := gtb_in (List.mem_of_getElem? (i := 75) (by decide +kernel)) rfl
abbrev mX10_breath : MI := (yX10_breath, cX10_breath, 4, some .int)
theorem wc_X10_breath : Cond.code mX10_breath.1 mX10_breath.2.1 mX10_breath.2.2.1 mX10_breath.2.2.2 ∈ gtb := gtb_in (List.mem_of_getElem? (i := 1330) (by decide +kernel)) rfl
theorem wi_X10_breath : Cond.instanceMethod yX10_breath ∈ gtb := gtb_in (List.mem_of_getElem? (i := 1328) (by decide +kernel)) rfl
theorem ws_X10_breath : Cond.selects RX10 yX10_breath yX10_breath ∈ gtb := gtb_in (List.mem_of_getElem? (i := 1329) (by decide +kernel)) rfl
abbrev mX10_clear : MI := (yX10_clear, cX10_clear, 6, some .int)
theorem wc_X10_clear : Cond.code mX10_clear.1 mX10_clear.2.1 mX10_clear.2.2.1 mX10_clear.2.2.2 ∈ gtb := gtb_in (List.mem_of_getElem? (i := 1338) (by decide +kernel)) rfl
theorem wi_X10_clear : Cond.instanceMethod yX10_clear ∈ gtb := gtb_in (List.mem_of_getElem? (i := 1336) (by decide +kernel)) rfl
theorem ws_X10_clear : Cond.selects RX10 yX10_clear yX10_clear ∈ gtb := gtb_in (List.mem_of_getElem? (i := 1337) (by decide +kernel)) rfl
abbrev mX10_touch : MI := (yX10_touch, cX10_touch, 5, some .int)
theorem wc_X10_touch : Cond.code mX10_touch.1 mX10_touch.2.1 mX10_touch.2.2.1 mX10_touch.2.2.2 ∈ gtb := gtb_in (List.mem_of_getElem? (i := 1342) (by decide +kernel)) rfl
theorem wi_X10_touch : Cond.instanceMethod yX10_touch ∈ gtb := gtb_in (List.mem_of_getElem? (i := 1340) (by decide +kernel)) rfl
theorem ws_X10_touch : Cond.selects RX10 yX10_touch yX10_touch ∈ gtb := gtb_in (List.mem_of_getElem? (i := 1341) (by decide +kernel)) rfl
abbrev mX10_readOf : MI := (yX10_readOf, cX10_readOf, 2, some .int)
theorem wc_X10_readOf : Cond.code mX10_readOf.1 mX10_readOf.2.1 mX10_readOf.2.2.1 mX10_readOf.2.2.2 ∈ gtb := gtb_in (List.mem_of_getElem? (i := 1350) (by decide +kernel)) rfl
theorem wi_X10_readOf : Cond.instanceMethod yX10_readOf ∈ gtb := gtb_in (List.mem_of_getElem? (i := 1349) (by decide +kernel)) rfl
theorem ws_X10_readOf : Cond.selects RX10 yX10_readOf yX10_readOf ∈ gtb := gtb_in (List.mem_of_getElem? (i := 76) (by decide +kernel)) rfl
abbrev mX10_tellsOf : MI := (yX10_tellsOf, cX10_tellsOf, 4, some .int)
theorem wc_X10_tellsOf : Cond.code mX10_tellsOf.1 mX10_tellsOf.2.1 mX10_tellsOf.2.2.1 mX10_tellsOf.2.2.2 ∈ gtb := gtb_in (List.mem_of_getElem? (i := 1346) (by decide +kernel)) rfl
theorem wi_X10_tellsOf : Cond.instanceMethod yX10_tellsOf ∈ gtb := gtb_in (List.mem_of_getElem? (i := 1344) (by decide +kernel)) rfl
theorem ws_X10_tellsOf : Cond.selects RX10 yX10_tellsOf yX10_tellsOf ∈ gtb := gtb_in (List.mem_of_getElem? (i := 1345) (by decide +kernel)) rfl
abbrev mX10_readOfAll : MI := (yX10_readOfAll, cX10_readOfAll, 4, some .int)
theorem wc_X10_readOfAll : Cond.code mX10_readOfAll.1 mX10_readOfAll.2.1 mX10_readOfAll.2.2.1 mX10_readOfAll.2.2.2 ∈ gtb := gtb_in (List.mem_of_getElem? (i := 1362) (by decide +kernel)) rfl
theorem wi_X10_readOfAll : Cond.instanceMethod yX10_readOfAll ∈ gtb := gtb_in (List.mem_of_getElem? (i := 1361) (by decide +kernel)) rfl
theorem ws_X10_readOfAll : Cond.selects RX10 yX10_readOfAll yX10_readOfAll ∈ gtb := gtb_in (List.mem_of_getElem? (i := 78) (by decide +kernel)) rfl
abbrev mX10_hides : MI := (yX10_hides, cX10_hides, 4, some .int)
theorem wc_X10_hides : Cond.code mX10_hides.1 mX10_hides.2.1 mX10_hides.2.2.1 mX10_hides.2.2.2 ∈ gtb := gtb_in (List.mem_of_getElem? (i := 1358) (by decide +kernel)) rfl
theorem wi_X10_hides : Cond.instanceMethod yX10_hides ∈ gtb := gtb_in (List.mem_of_getElem? (i := 1357) (by decide +kernel)) rfl
theorem ws_X10_hides : Cond.selects RX10 yX10_hides yX10_hides ∈ gtb := gtb_in (List.mem_of_getElem? (i := 77) (by decide +kernel)) rfl
abbrev mX10_fewest : MI := (yX10_fewest, cX10_fewest, 5, some .int)
theorem wc_X10_fewest : Cond.code mX10_fewest.1 mX10_fewest.2.1 mX10_fewest.2.2.1 mX10_fewest.2.2.2 ∈ gtb := gtb_in (List.mem_of_getElem? (i := 1354) (by decide +kernel)) rfl
theorem wi_X10_fewest : Cond.instanceMethod yX10_fewest ∈ gtb := gtb_in (List.mem_of_getElem? (i := 1352) (by decide +kernel)) rfl
theorem ws_X10_fewest : Cond.selects RX10 yX10_fewest yX10_fewest ∈ gtb := gtb_in (List.mem_of_getElem? (i := 1353) (by decide +kernel)) rfl
abbrev mX10_corner : MI := (yX10_corner, cX10_corner, 3, some .int)
theorem wc_X10_corner : Cond.code mX10_corner.1 mX10_corner.2.1 mX10_corner.2.2.1 mX10_corner.2.2.2 ∈ gtb := gtb_in (List.mem_of_getElem? (i := 1366) (by decide +kernel)) rfl
theorem wi_X10_corner : Cond.instanceMethod yX10_corner ∈ gtb := gtb_in (List.mem_of_getElem? (i := 1364) (by decide +kernel)) rfl
theorem ws_X10_corner : Cond.selects RX10 yX10_corner yX10_corner ∈ gtb := gtb_in (List.mem_of_getElem? (i := 1365) (by decide +kernel)) rfl
abbrev mX10_wayAt : MI := (yX10_wayAt, cX10_wayAt, 3, some .int)
theorem wc_X10_wayAt : Cond.code mX10_wayAt.1 mX10_wayAt.2.1 mX10_wayAt.2.2.1 mX10_wayAt.2.2.2 ∈ gtb := gtb_in (List.mem_of_getElem? (i := 1388) (by decide +kernel)) rfl
theorem wst_X10_wayAt : Cond.static yX10_wayAt ∈ gtb := gtb_in (List.mem_of_getElem? (i := 1387) (by decide +kernel)) rfl
abbrev mX10_layAmounts : MI := (yX10_layAmounts, cX10_layAmounts, 4, none)
theorem wc_X10_layAmounts : Cond.code mX10_layAmounts.1 mX10_layAmounts.2.1 mX10_layAmounts.2.2.1 mX10_layAmounts.2.2.2 ∈ gtb := gtb_in (List.mem_of_getElem? (i := 1385) (by decide +kernel)) rfl
theorem wi_X10_layAmounts : Cond.instanceMethod yX10_layAmounts ∈ gtb := gtb_in (List.mem_of_getElem? (i := 1384) (by decide +kernel)) rfl
theorem ws_X10_layAmounts : Cond.selects RX10 yX10_layAmounts yX10_layAmounts ∈ gtb := gtb_in (List.mem_of_getElem? (i := 81) (by decide +kernel)) rfl
abbrev mX10_waysBy : MI := (yX10_waysBy, cX10_waysBy, 6, some .long)
theorem wc_X10_waysBy : Cond.code mX10_waysBy.1 mX10_waysBy.2.1 mX10_waysBy.2.2.1 mX10_waysBy.2.2.2 ∈ gtb := gtb_in (List.mem_of_getElem? (i := 1404) (by decide +kernel)) rfl
theorem wi_X10_waysBy : Cond.instanceMethod yX10_waysBy ∈ gtb := gtb_in (List.mem_of_getElem? (i := 1403) (by decide +kernel)) rfl
theorem ws_X10_waysBy : Cond.selects RX10 yX10_waysBy yX10_waysBy ∈ gtb := gtb_in (List.mem_of_getElem? (i := 85) (by decide +kernel)) rfl
abbrev mX10_isWithout : MI := (yX10_isWithout, cX10_isWithout, 2, some .boolean)
theorem wc_X10_isWithout : Cond.code mX10_isWithout.1 mX10_isWithout.2.1 mX10_isWithout.2.2.1 mX10_isWithout.2.2.2 ∈ gtb := gtb_in (List.mem_of_getElem? (i := 1400) (by decide +kernel)) rfl
theorem wi_X10_isWithout : Cond.instanceMethod yX10_isWithout ∈ gtb := gtb_in (List.mem_of_getElem? (i := 1399) (by decide +kernel)) rfl
theorem ws_X10_isWithout : Cond.selects RX10 yX10_isWithout yX10_isWithout ∈ gtb := gtb_in (List.mem_of_getElem? (i := 84) (by decide +kernel)) rfl
abbrev mX10_findWays : MI := (yX10_findWays, cX10_findWays, 7, none)
theorem wc_X10_findWays : Cond.code mX10_findWays.1 mX10_findWays.2.1 mX10_findWays.2.2.1 mX10_findWays.2.2.2 ∈ gtb := gtb_in (List.mem_of_getElem? (i := 1381) (by decide +kernel)) rfl
theorem wi_X10_findWays : Cond.instanceMethod yX10_findWays ∈ gtb := gtb_in (List.mem_of_getElem? (i := 1380) (by decide +kernel)) rfl
theorem ws_X10_findWays : Cond.selects RX10 yX10_findWays yX10_findWays ∈ gtb := gtb_in (List.mem_of_getElem? (i := 80) (by decide +kernel)) rfl
abbrev mX10_isThere : MI := (yX10_isThere, cX10_isThere, 3, some .long)
theorem wc_X10_isThere : Cond.code mX10_isThere.1 mX10_isThere.2.1 mX10_isThere.2.2.1 mX10_isThere.2.2.2 ∈ gtb := gtb_in (List.mem_of_getElem? (i := 1392) (by decide +kernel)) rfl
theorem wi_X10_isThere : Cond.instanceMethod yX10_isThere ∈ gtb := gtb_in (List.mem_of_getElem? (i := 1391) (by decide +kernel)) rfl
theorem ws_X10_isThere : Cond.selects RX10 yX10_isThere yX10_isThere ∈ gtb := gtb_in (List.mem_of_getElem? (i := 82) (by decide +kernel)) rfl
abbrev mX10_sumWays : MI := (yX10_sumWays, cX10_sumWays, 7, some .long)
theorem wc_X10_sumWays : Cond.code mX10_sumWays.1 mX10_sumWays.2.1 mX10_sumWays.2.2.1 mX10_sumWays.2.2.2 ∈ gtb := gtb_in (List.mem_of_getElem? (i := 1396) (by decide +kernel)) rfl
theorem wi_X10_sumWays : Cond.instanceMethod yX10_sumWays ∈ gtb := gtb_in (List.mem_of_getElem? (i := 1395) (by decide +kernel)) rfl
theorem ws_X10_sumWays : Cond.selects RX10 yX10_sumWays yX10_sumWays ∈ gtb := gtb_in (List.mem_of_getElem? (i := 83) (by decide +kernel)) rfl
abbrev mX10_areDays : MI := (yX10_areDays, cX10_areDays, 1, some .boolean)
theorem wc_X10_areDays : Cond.code mX10_areDays.1 mX10_areDays.2.1 mX10_areDays.2.2.1 mX10_areDays.2.2.2 ∈ gtb := gtb_in (List.mem_of_getElem? (i := 1373) (by decide +kernel)) rfl
theorem wst_X10_areDays : Cond.static yX10_areDays ∈ gtb := gtb_in (List.mem_of_getElem? (i := 1372) (by decide +kernel)) rfl
abbrev mX10_allWays : MI := (yX10_allWays, cX10_allWays, 4, some .long)
theorem wc_X10_allWays : Cond.code mX10_allWays.1 mX10_allWays.2.1 mX10_allWays.2.2.1 mX10_allWays.2.2.2 ∈ gtb := gtb_in (List.mem_of_getElem? (i := 1377) (by decide +kernel)) rfl
theorem wi_X10_allWays : Cond.instanceMethod yX10_allWays ∈ gtb := gtb_in (List.mem_of_getElem? (i := 1376) (by decide +kernel)) rfl
theorem ws_X10_allWays : Cond.selects RX10 yX10_allWays yX10_allWays ∈ gtb := gtb_in (List.mem_of_getElem? (i := 79) (by decide +kernel)) rfl
abbrev mX10_ways : MI := (yX10_ways, cX10_ways, 3, some .long)
theorem wc_X10_ways : Cond.code mX10_ways.1 mX10_ways.2.1 mX10_ways.2.2.1 mX10_ways.2.2.2 ∈ gtb := gtb_in (List.mem_of_getElem? (i := 1370) (by decide +kernel)) rfl
theorem wi_X10_ways : Cond.instanceMethod yX10_ways ∈ gtb := gtb_in (List.mem_of_getElem? (i := 1368) (by decide +kernel)) rfl
theorem ws_X10_ways : Cond.selects RX10 yX10_ways yX10_ways ∈ gtb := gtb_in (List.mem_of_getElem? (i := 1369) (by decide +kernel)) rfl
abbrev mX10_first : MI := (yX10_first, cX10_first, 9, some .int)
theorem wc_X10_first : Cond.code mX10_first.1 mX10_first.2.1 mX10_first.2.2.1 mX10_first.2.2.2 ∈ gtb := gtb_in (List.mem_of_getElem? (i := 1409) (by decide +kernel)) rfl
theorem wi_X10_first : Cond.instanceMethod yX10_first ∈ gtb := gtb_in (List.mem_of_getElem? (i := 1407) (by decide +kernel)) rfl
theorem ws_X10_first : Cond.selects RX10 yX10_first yX10_first ∈ gtb := gtb_in (List.mem_of_getElem? (i := 1408) (by decide +kernel)) rfl
abbrev mX10_least : MI := (yX10_least, cX10_least, 3, some .int)
theorem wc_X10_least : Cond.code mX10_least.1 mX10_least.2.1 mX10_least.2.2.1 mX10_least.2.2.2 ∈ gtb := gtb_in (List.mem_of_getElem? (i := 1413) (by decide +kernel)) rfl
theorem wi_X10_least : Cond.instanceMethod yX10_least ∈ gtb := gtb_in (List.mem_of_getElem? (i := 1411) (by decide +kernel)) rfl
theorem ws_X10_least : Cond.selects RX10 yX10_least yX10_least ∈ gtb := gtb_in (List.mem_of_getElem? (i := 1412) (by decide +kernel)) rfl
abbrev mX10_certain : MI := (yX10_certain, cX10_certain, 5, some .int)
theorem wc_X10_certain : Cond.code mX10_certain.1 mX10_certain.2.1 mX10_certain.2.2.1 mX10_certain.2.2.2 ∈ gtb := gtb_in (List.mem_of_getElem? (i := 1417) (by decide +kernel)) rfl
theorem wi_X10_certain : Cond.instanceMethod yX10_certain ∈ gtb := gtb_in (List.mem_of_getElem? (i := 1415) (by decide +kernel)) rfl
theorem ws_X10_certain : Cond.selects RX10 yX10_certain yX10_certain ∈ gtb := gtb_in (List.mem_of_getElem? (i := 1416) (by decide +kernel)) rfl
abbrev mX10_areSills : MI := (yX10_areSills, cX10_areSills, 2, some .boolean)
theorem wc_X10_areSills : Cond.code mX10_areSills.1 mX10_areSills.2.1 mX10_areSills.2.2.1 mX10_areSills.2.2.2 ∈ gtb := gtb_in (List.mem_of_getElem? (i := 1425) (by decide +kernel)) rfl
theorem wi_X10_areSills : Cond.instanceMethod yX10_areSills ∈ gtb := gtb_in (List.mem_of_getElem? (i := 1424) (by decide +kernel)) rfl
theorem ws_X10_areSills : Cond.selects RX10 yX10_areSills yX10_areSills ∈ gtb := gtb_in (List.mem_of_getElem? (i := 86) (by decide +kernel)) rfl
abbrev mX10_whomAt : MI := (yX10_whomAt, cX10_whomAt, 3, some .int)
theorem wc_X10_whomAt : Cond.code mX10_whomAt.1 mX10_whomAt.2.1 mX10_whomAt.2.2.1 mX10_whomAt.2.2.2 ∈ gtb := gtb_in (List.mem_of_getElem? (i := 1433) (by decide +kernel)) rfl
theorem wi_X10_whomAt : Cond.instanceMethod yX10_whomAt ∈ gtb := gtb_in (List.mem_of_getElem? (i := 1432) (by decide +kernel)) rfl
theorem ws_X10_whomAt : Cond.selects RX10 yX10_whomAt yX10_whomAt ∈ gtb := gtb_in (List.mem_of_getElem? (i := 88) (by decide +kernel)) rfl
abbrev mX10_findAlike : MI := (yX10_findAlike, cX10_findAlike, 6, none)
theorem wc_X10_findAlike : Cond.code mX10_findAlike.1 mX10_findAlike.2.1 mX10_findAlike.2.2.1 mX10_findAlike.2.2.2 ∈ gtb := gtb_in (List.mem_of_getElem? (i := 1429) (by decide +kernel)) rfl
theorem wi_X10_findAlike : Cond.instanceMethod yX10_findAlike ∈ gtb := gtb_in (List.mem_of_getElem? (i := 1428) (by decide +kernel)) rfl
theorem ws_X10_findAlike : Cond.selects RX10 yX10_findAlike yX10_findAlike ∈ gtb := gtb_in (List.mem_of_getElem? (i := 87) (by decide +kernel)) rfl
abbrev mX10_placeOf : MI := (yX10_placeOf, cX10_placeOf, 5, some .int)
theorem wc_X10_placeOf : Cond.code mX10_placeOf.1 mX10_placeOf.2.1 mX10_placeOf.2.2.1 mX10_placeOf.2.2.2 ∈ gtb := gtb_in (List.mem_of_getElem? (i := 1437) (by decide +kernel)) rfl
theorem wi_X10_placeOf : Cond.instanceMethod yX10_placeOf ∈ gtb := gtb_in (List.mem_of_getElem? (i := 1436) (by decide +kernel)) rfl
theorem ws_X10_placeOf : Cond.selects RX10 yX10_placeOf yX10_placeOf ∈ gtb := gtb_in (List.mem_of_getElem? (i := 89) (by decide +kernel)) rfl
abbrev mX10_alike : MI := (yX10_alike, cX10_alike, 10, some .int)
theorem wc_X10_alike : Cond.code mX10_alike.1 mX10_alike.2.1 mX10_alike.2.2.1 mX10_alike.2.2.2 ∈ gtb := gtb_in (List.mem_of_getElem? (i := 1421) (by decide +kernel)) rfl
theorem wi_X10_alike : Cond.instanceMethod yX10_alike ∈ gtb := gtb_in (List.mem_of_getElem? (i := 1419) (by decide +kernel)) rfl
theorem ws_X10_alike : Cond.selects RX10 yX10_alike yX10_alike ∈ gtb := gtb_in (List.mem_of_getElem? (i := 1420) (by decide +kernel)) rfl
abbrev mX10_same : MI := (yX10_same, cX10_same, 5, some .int)
theorem wc_X10_same : Cond.code mX10_same.1 mX10_same.2.1 mX10_same.2.2.1 mX10_same.2.2.2 ∈ gtb := gtb_in (List.mem_of_getElem? (i := 1441) (by decide +kernel)) rfl
theorem wi_X10_same : Cond.instanceMethod yX10_same ∈ gtb := gtb_in (List.mem_of_getElem? (i := 1439) (by decide +kernel)) rfl
theorem ws_X10_same : Cond.selects RX10 yX10_same yX10_same ∈ gtb := gtb_in (List.mem_of_getElem? (i := 1440) (by decide +kernel)) rfl
abbrev mX10_weightOf : MI := (yX10_weightOf, cX10_weightOf, 6, some .long)
theorem wc_X10_weightOf : Cond.code mX10_weightOf.1 mX10_weightOf.2.1 mX10_weightOf.2.2.1 mX10_weightOf.2.2.2 ∈ gtb := gtb_in (List.mem_of_getElem? (i := 1449) (by decide +kernel)) rfl
theorem wi_X10_weightOf : Cond.instanceMethod yX10_weightOf ∈ gtb := gtb_in (List.mem_of_getElem? (i := 1448) (by decide +kernel)) rfl
theorem ws_X10_weightOf : Cond.selects RX10 yX10_weightOf yX10_weightOf ∈ gtb := gtb_in (List.mem_of_getElem? (i := 90) (by decide +kernel)) rfl
abbrev mX10_lowest : MI := (yX10_lowest, cX10_lowest, 11, some .long)
theorem wc_X10_lowest : Cond.code mX10_lowest.1 mX10_lowest.2.1 mX10_lowest.2.2.1 mX10_lowest.2.2.2 ∈ gtb := gtb_in (List.mem_of_getElem? (i := 1452) (by decide +kernel)) rfl
theorem wst_X10_lowest : Cond.static yX10_lowest ∈ gtb := gtb_in (List.mem_of_getElem? (i := 1451) (by decide +kernel)) rfl
abbrev mX10_likely : MI := (yX10_likely, cX10_likely, 6, some .long)
theorem wc_X10_likely : Cond.code mX10_likely.1 mX10_likely.2.1 mX10_likely.2.2.1 mX10_likely.2.2.2 ∈ gtb := gtb_in (List.mem_of_getElem? (i := 1445) (by decide +kernel)) rfl
theorem wi_X10_likely : Cond.instanceMethod yX10_likely ∈ gtb := gtb_in (List.mem_of_getElem? (i := 1443) (by decide +kernel)) rfl
theorem ws_X10_likely : Cond.selects RX10 yX10_likely yX10_likely ∈ gtb := gtb_in (List.mem_of_getElem? (i := 1444) (by decide +kernel)) rfl
abbrev mX10_expected : MI := (yX10_expected, cX10_expected, 3, some .int)
theorem wc_X10_expected : Cond.code mX10_expected.1 mX10_expected.2.1 mX10_expected.2.2.1 mX10_expected.2.2.2 ∈ gtb := gtb_in (List.mem_of_getElem? (i := 1456) (by decide +kernel)) rfl
theorem wi_X10_expected : Cond.instanceMethod yX10_expected ∈ gtb := gtb_in (List.mem_of_getElem? (i := 1454) (by decide +kernel)) rfl
theorem ws_X10_expected : Cond.selects RX10 yX10_expected yX10_expected ∈ gtb := gtb_in (List.mem_of_getElem? (i := 1455) (by decide +kernel)) rfl
abbrev mX10_judge : MI := (yX10_judge, cX10_judge, 4, some .int)
theorem wc_X10_judge : Cond.code mX10_judge.1 mX10_judge.2.1 mX10_judge.2.2.1 mX10_judge.2.2.2 ∈ gtb := gtb_in (List.mem_of_getElem? (i := 1460) (by decide +kernel)) rfl
theorem wi_X10_judge : Cond.instanceMethod yX10_judge ∈ gtb := gtb_in (List.mem_of_getElem? (i := 1458) (by decide +kernel)) rfl
theorem ws_X10_judge : Cond.selects RX10 yX10_judge yX10_judge ∈ gtb := gtb_in (List.mem_of_getElem? (i := 1459) (by decide +kernel)) rfl
abbrev mX10_drawn : MI := (yX10_drawn, cX10_drawn, 10, some .int)
theorem wc_X10_drawn : Cond.code mX10_drawn.1 mX10_drawn.2.1 mX10_drawn.2.2.1 mX10_drawn.2.2.2 ∈ gtb := gtb_in (List.mem_of_getElem? (i := 1464) (by decide +kernel)) rfl
theorem wi_X10_drawn : Cond.instanceMethod yX10_drawn ∈ gtb := gtb_in (List.mem_of_getElem? (i := 1462) (by decide +kernel)) rfl
theorem ws_X10_drawn : Cond.selects RX10 yX10_drawn yX10_drawn ∈ gtb := gtb_in (List.mem_of_getElem? (i := 1463) (by decide +kernel)) rfl
abbrev mX10_keepSill : MI := (yX10_keepSill, cX10_keepSill, 2, none)
theorem wc_X10_keepSill : Cond.code mX10_keepSill.1 mX10_keepSill.2.1 mX10_keepSill.2.2.1 mX10_keepSill.2.2.2 ∈ gtb := gtb_in (List.mem_of_getElem? (i := 1477) (by decide +kernel)) rfl
theorem wi_X10_keepSill : Cond.instanceMethod yX10_keepSill ∈ gtb := gtb_in (List.mem_of_getElem? (i := 1476) (by decide +kernel)) rfl
theorem ws_X10_keepSill : Cond.selects RX10 yX10_keepSill yX10_keepSill ∈ gtb := gtb_in (List.mem_of_getElem? (i := 92) (by decide +kernel)) rfl
abbrev mX10_look : MI := (yX10_look, cX10_look, 4, some .int)
theorem wc_X10_look : Cond.code mX10_look.1 mX10_look.2.1 mX10_look.2.2.1 mX10_look.2.2.2 ∈ gtb := gtb_in (List.mem_of_getElem? (i := 1469) (by decide +kernel)) rfl
theorem wi_X10_look : Cond.instanceMethod yX10_look ∈ gtb := gtb_in (List.mem_of_getElem? (i := 1467) (by decide +kernel)) rfl
theorem ws_X10_look : Cond.selects RX10 yX10_look yX10_look ∈ gtb := gtb_in (List.mem_of_getElem? (i := 1468) (by decide +kernel)) rfl
abbrev mX10_blow : MI := (yX10_blow, cX10_blow, 4, some .int)
theorem wc_X10_blow : Cond.code mX10_blow.1 mX10_blow.2.1 mX10_blow.2.2.1 mX10_blow.2.2.2 ∈ gtb := gtb_in (List.mem_of_getElem? (i := 1481) (by decide +kernel)) rfl
theorem wi_X10_blow : Cond.instanceMethod yX10_blow ∈ gtb := gtb_in (List.mem_of_getElem? (i := 1479) (by decide +kernel)) rfl
theorem ws_X10_blow : Cond.selects RX10 yX10_blow yX10_blow ∈ gtb := gtb_in (List.mem_of_getElem? (i := 1480) (by decide +kernel)) rfl
abbrev mX10_sweep : MI := (yX10_sweep, cX10_sweep, 3, some .int)
theorem wc_X10_sweep : Cond.code mX10_sweep.1 mX10_sweep.2.1 mX10_sweep.2.2.1 mX10_sweep.2.2.2 ∈ gtb := gtb_in (List.mem_of_getElem? (i := 1485) (by decide +kernel)) rfl
theorem wi_X10_sweep : Cond.instanceMethod yX10_sweep ∈ gtb := gtb_in (List.mem_of_getElem? (i := 1483) (by decide +kernel)) rfl
theorem ws_X10_sweep : Cond.selects RX10 yX10_sweep yX10_sweep ∈ gtb := gtb_in (List.mem_of_getElem? (i := 1484) (by decide +kernel)) rfl
abbrev mX10_led : MI := (yX10_led, cX10_led, 2, some .int)
theorem wc_X10_led : Cond.code mX10_led.1 mX10_led.2.1 mX10_led.2.2.1 mX10_led.2.2.2 ∈ gtb := gtb_in (List.mem_of_getElem? (i := 1489) (by decide +kernel)) rfl
theorem wi_X10_led : Cond.instanceMethod yX10_led ∈ gtb := gtb_in (List.mem_of_getElem? (i := 1487) (by decide +kernel)) rfl
theorem ws_X10_led : Cond.selects RX10 yX10_led yX10_led ∈ gtb := gtb_in (List.mem_of_getElem? (i := 1488) (by decide +kernel)) rfl
abbrev mX10_image : MI := (yX10_image, cX10_image, 2, some .int)
theorem wc_X10_image : Cond.code mX10_image.1 mX10_image.2.1 mX10_image.2.2.1 mX10_image.2.2.2 ∈ gtb := gtb_in (List.mem_of_getElem? (i := 1493) (by decide +kernel)) rfl
theorem wi_X10_image : Cond.instanceMethod yX10_image ∈ gtb := gtb_in (List.mem_of_getElem? (i := 1491) (by decide +kernel)) rfl
theorem ws_X10_image : Cond.selects RX10 yX10_image yX10_image ∈ gtb := gtb_in (List.mem_of_getElem? (i := 1492) (by decide +kernel)) rfl
abbrev mX10_back : MI := (yX10_back, cX10_back, 2, some .int)
theorem wc_X10_back : Cond.code mX10_back.1 mX10_back.2.1 mX10_back.2.2.1 mX10_back.2.2.2 ∈ gtb := gtb_in (List.mem_of_getElem? (i := 1497) (by decide +kernel)) rfl
theorem wi_X10_back : Cond.instanceMethod yX10_back ∈ gtb := gtb_in (List.mem_of_getElem? (i := 1495) (by decide +kernel)) rfl
theorem ws_X10_back : Cond.selects RX10 yX10_back yX10_back ∈ gtb := gtb_in (List.mem_of_getElem? (i := 1496) (by decide +kernel)) rfl
abbrev mX10_isBody : MI := (yX10_isBody, cX10_isBody, 2, some .boolean)
theorem wc_X10_isBody : Cond.code mX10_isBody.1 mX10_isBody.2.1 mX10_isBody.2.2.1 mX10_isBody.2.2.2 ∈ gtb := gtb_in (List.mem_of_getElem? (i := 1513) (by decide +kernel)) rfl
theorem wi_X10_isBody : Cond.instanceMethod yX10_isBody ∈ gtb := gtb_in (List.mem_of_getElem? (i := 1512) (by decide +kernel)) rfl
theorem ws_X10_isBody : Cond.selects RX10 yX10_isBody yX10_isBody ∈ gtb := gtb_in (List.mem_of_getElem? (i := 93) (by decide +kernel)) rfl
abbrev mX10_ran : MI := (yX10_ran, cX10_ran, 2, none)
theorem wc_X10_ran : Cond.code mX10_ran.1 mX10_ran.2.1 mX10_ran.2.2.1 mX10_ran.2.2.2 ∈ gtb := gtb_in (List.mem_of_getElem? (i := 1524) (by decide +kernel)) rfl
theorem wi_X10_ran : Cond.instanceMethod yX10_ran ∈ gtb := gtb_in (List.mem_of_getElem? (i := 1523) (by decide +kernel)) rfl
theorem ws_X10_ran : Cond.selects RX10 yX10_ran yX10_ran ∈ gtb := gtb_in (List.mem_of_getElem? (i := 95) (by decide +kernel)) rfl
abbrev mX10_trace : MI := (yX10_trace, cX10_trace, 2, some .int)
theorem wc_X10_trace : Cond.code mX10_trace.1 mX10_trace.2.1 mX10_trace.2.2.1 mX10_trace.2.2.2 ∈ gtb := gtb_in (List.mem_of_getElem? (i := 1501) (by decide +kernel)) rfl
theorem wi_X10_trace : Cond.instanceMethod yX10_trace ∈ gtb := gtb_in (List.mem_of_getElem? (i := 1499) (by decide +kernel)) rfl
theorem ws_X10_trace : Cond.selects RX10 yX10_trace yX10_trace ∈ gtb := gtb_in (List.mem_of_getElem? (i := 1500) (by decide +kernel)) rfl
abbrev mX10_body : MI := (yX10_body, cX10_body, 2, some .int)
theorem wc_X10_body : Cond.code mX10_body.1 mX10_body.2.1 mX10_body.2.2.1 mX10_body.2.2.2 ∈ gtb := gtb_in (List.mem_of_getElem? (i := 1505) (by decide +kernel)) rfl
theorem wi_X10_body : Cond.instanceMethod yX10_body ∈ gtb := gtb_in (List.mem_of_getElem? (i := 1503) (by decide +kernel)) rfl
theorem ws_X10_body : Cond.selects RX10 yX10_body yX10_body ∈ gtb := gtb_in (List.mem_of_getElem? (i := 1504) (by decide +kernel)) rfl
abbrev mX10_isUnder : MI := (yX10_isUnder, cX10_isUnder, 2, some .boolean)
theorem wc_X10_isUnder : Cond.code mX10_isUnder.1 mX10_isUnder.2.1 mX10_isUnder.2.2.1 mX10_isUnder.2.2.2 ∈ gtb := gtb_in (List.mem_of_getElem? (i := 1520) (by decide +kernel)) rfl
theorem wst_X10_isUnder : Cond.static yX10_isUnder ∈ gtb := gtb_in (List.mem_of_getElem? (i := 1519) (by decide +kernel)) rfl
abbrev mX10_plainLies : MI := (yX10_plainLies, cX10_plainLies, 3, some .int)
theorem wc_X10_plainLies : Cond.code mX10_plainLies.1 mX10_plainLies.2.1 mX10_plainLies.2.2.1 mX10_plainLies.2.2.2 ∈ gtb := gtb_in (List.mem_of_getElem? (i := 1528) (by decide +kernel)) rfl
theorem wi_X10_plainLies : Cond.instanceMethod yX10_plainLies ∈ gtb := gtb_in (List.mem_of_getElem? (i := 1527) (by decide +kernel)) rfl
theorem ws_X10_plainLies : Cond.selects RX10 yX10_plainLies yX10_plainLies ∈ gtb := gtb_in (List.mem_of_getElem? (i := 96) (by decide +kernel)) rfl
abbrev mX10_panLies : MI := (yX10_panLies, cX10_panLies, 3, some .int)
theorem wc_X10_panLies : Cond.code mX10_panLies.1 mX10_panLies.2.1 mX10_panLies.2.2.1 mX10_panLies.2.2.2 ∈ gtb := gtb_in (List.mem_of_getElem? (i := 1532) (by decide +kernel)) rfl
theorem wi_X10_panLies : Cond.instanceMethod yX10_panLies ∈ gtb := gtb_in (List.mem_of_getElem? (i := 1531) (by decide +kernel)) rfl
theorem ws_X10_panLies : Cond.selects RX10 yX10_panLies yX10_panLies ∈ gtb := gtb_in (List.mem_of_getElem? (i := 97) (by decide +kernel)) rfl
abbrev mX10_lying : MI := (yX10_lying, cX10_lying, 3, some .int)
theorem wc_X10_lying : Cond.code mX10_lying.1 mX10_lying.2.1 mX10_lying.2.2.1 mX10_lying.2.2.2 ∈ gtb := gtb_in (List.mem_of_getElem? (i := 1517) (by decide +kernel)) rfl
theorem wi_X10_lying : Cond.instanceMethod yX10_lying ∈ gtb := gtb_in (List.mem_of_getElem? (i := 1516) (by decide +kernel)) rfl
theorem ws_X10_lying : Cond.selects RX10 yX10_lying yX10_lying ∈ gtb := gtb_in (List.mem_of_getElem? (i := 94) (by decide +kernel)) rfl
abbrev mX10_plainReads : MI := (yX10_plainReads, cX10_plainReads, 3, some .int)
theorem wc_X10_plainReads : Cond.code mX10_plainReads.1 mX10_plainReads.2.1 mX10_plainReads.2.2.1 mX10_plainReads.2.2.2 ∈ gtb := gtb_in (List.mem_of_getElem? (i := 1544) (by decide +kernel)) rfl
theorem wi_X10_plainReads : Cond.instanceMethod yX10_plainReads ∈ gtb := gtb_in (List.mem_of_getElem? (i := 1543) (by decide +kernel)) rfl
theorem ws_X10_plainReads : Cond.selects RX10 yX10_plainReads yX10_plainReads ∈ gtb := gtb_in (List.mem_of_getElem? (i := 100) (by decide +kernel)) rfl
abbrev mX10_thursdayReads : MI := (yX10_thursdayReads, cX10_thursdayReads, 3, some .int)
theorem wc_X10_thursdayReads : Cond.code mX10_thursdayReads.1 mX10_thursdayReads.2.1 mX10_thursdayReads.2.2.1 mX10_thursdayReads.2.2.2 ∈ gtb := gtb_in (List.mem_of_getElem? (i := 1540) (by decide +kernel)) rfl
theorem wi_X10_thursdayReads : Cond.instanceMethod yX10_thursdayReads ∈ gtb := gtb_in (List.mem_of_getElem? (i := 1539) (by decide +kernel)) rfl
theorem ws_X10_thursdayReads : Cond.selects RX10 yX10_thursdayReads yX10_thursdayReads ∈ gtb := gtb_in (List.mem_of_getElem? (i := 99) (by decide +kernel)) rfl
abbrev mX10_reading : MI := (yX10_reading, cX10_reading, 4, some .int)
theorem wc_X10_reading : Cond.code mX10_reading.1 mX10_reading.2.1 mX10_reading.2.2.1 mX10_reading.2.2.2 ∈ gtb := gtb_in (List.mem_of_getElem? (i := 1536) (by decide +kernel)) rfl
theorem wi_X10_reading : Cond.instanceMethod yX10_reading ∈ gtb := gtb_in (List.mem_of_getElem? (i := 1535) (by decide +kernel)) rfl
theorem ws_X10_reading : Cond.selects RX10 yX10_reading yX10_reading ∈ gtb := gtb_in (List.mem_of_getElem? (i := 98) (by decide +kernel)) rfl
abbrev mX10_plainFalls : MI := (yX10_plainFalls, cX10_plainFalls, 3, some .int)
theorem wc_X10_plainFalls : Cond.code mX10_plainFalls.1 mX10_plainFalls.2.1 mX10_plainFalls.2.2.1 mX10_plainFalls.2.2.2 ∈ gtb := gtb_in (List.mem_of_getElem? (i := 1556) (by decide +kernel)) rfl
theorem wi_X10_plainFalls : Cond.instanceMethod yX10_plainFalls ∈ gtb := gtb_in (List.mem_of_getElem? (i := 1555) (by decide +kernel)) rfl
theorem ws_X10_plainFalls : Cond.selects RX10 yX10_plainFalls yX10_plainFalls ∈ gtb := gtb_in (List.mem_of_getElem? (i := 103) (by decide +kernel)) rfl
abbrev mX10_cornerFalls : MI := (yX10_cornerFalls, cX10_cornerFalls, 3, some .int)
theorem wc_X10_cornerFalls : Cond.code mX10_cornerFalls.1 mX10_cornerFalls.2.1 mX10_cornerFalls.2.2.1 mX10_cornerFalls.2.2.2 ∈ gtb := gtb_in (List.mem_of_getElem? (i := 1552) (by decide +kernel)) rfl
theorem wi_X10_cornerFalls : Cond.instanceMethod yX10_cornerFalls ∈ gtb := gtb_in (List.mem_of_getElem? (i := 1551) (by decide +kernel)) rfl
theorem ws_X10_cornerFalls : Cond.selects RX10 yX10_cornerFalls yX10_cornerFalls ∈ gtb := gtb_in (List.mem_of_getElem? (i := 102) (by decide +kernel)) rfl
abbrev mX10_falling : MI := (yX10_falling, cX10_falling, 4, some .int)
theorem wc_X10_falling : Cond.code mX10_falling.1 mX10_falling.2.1 mX10_falling.2.2.1 mX10_falling.2.2.2 ∈ gtb := gtb_in (List.mem_of_getElem? (i := 1548) (by decide +kernel)) rfl
theorem wi_X10_falling : Cond.instanceMethod yX10_falling ∈ gtb := gtb_in (List.mem_of_getElem? (i := 1547) (by decide +kernel)) rfl
theorem ws_X10_falling : Cond.selects RX10 yX10_falling yX10_falling ∈ gtb := gtb_in (List.mem_of_getElem? (i := 101) (by decide +kernel)) rfl
abbrev mX10_plainTells : MI := (yX10_plainTells, cX10_plainTells, 4, some .int)
theorem wc_X10_plainTells : Cond.code mX10_plainTells.1 mX10_plainTells.2.1 mX10_plainTells.2.2.1 mX10_plainTells.2.2.2 ∈ gtb := gtb_in (List.mem_of_getElem? (i := 1564) (by decide +kernel)) rfl
theorem wi_X10_plainTells : Cond.instanceMethod yX10_plainTells ∈ gtb := gtb_in (List.mem_of_getElem? (i := 1563) (by decide +kernel)) rfl
theorem ws_X10_plainTells : Cond.selects RX10 yX10_plainTells yX10_plainTells ∈ gtb := gtb_in (List.mem_of_getElem? (i := 105) (by decide +kernel)) rfl
abbrev mX10_telling : MI := (yX10_telling, cX10_telling, 3, some .int)
theorem wc_X10_telling : Cond.code mX10_telling.1 mX10_telling.2.1 mX10_telling.2.2.1 mX10_telling.2.2.2 ∈ gtb := gtb_in (List.mem_of_getElem? (i := 1560) (by decide +kernel)) rfl
theorem wi_X10_telling : Cond.instanceMethod yX10_telling ∈ gtb := gtb_in (List.mem_of_getElem? (i := 1559) (by decide +kernel)) rfl
theorem ws_X10_telling : Cond.selects RX10 yX10_telling yX10_telling ∈ gtb := gtb_in (List.mem_of_getElem? (i := 104) (by decide +kernel)) rfl
abbrev mX10_act : MI := (yX10_act, cX10_act, 4, some .int)
theorem wc_X10_act : Cond.code mX10_act.1 mX10_act.2.1 mX10_act.2.2.1 mX10_act.2.2.2 ∈ gtb := gtb_in (List.mem_of_getElem? (i := 1509) (by decide +kernel)) rfl
theorem wi_X10_act : Cond.instanceMethod yX10_act ∈ gtb := gtb_in (List.mem_of_getElem? (i := 1507) (by decide +kernel)) rfl
theorem ws_X10_act : Cond.selects RX10 yX10_act yX10_act ∈ gtb := gtb_in (List.mem_of_getElem? (i := 1508) (by decide +kernel)) rfl
abbrev mX10_count : MI := (yX10_count, cX10_count, 2, some .int)
theorem wc_X10_count : Cond.code mX10_count.1 mX10_count.2.1 mX10_count.2.2.1 mX10_count.2.2.2 ∈ gtb := gtb_in (List.mem_of_getElem? (i := 1568) (by decide +kernel)) rfl
theorem wi_X10_count : Cond.instanceMethod yX10_count ∈ gtb := gtb_in (List.mem_of_getElem? (i := 1566) (by decide +kernel)) rfl
theorem ws_X10_count : Cond.selects RX10 yX10_count yX10_count ∈ gtb := gtb_in (List.mem_of_getElem? (i := 1567) (by decide +kernel)) rfl
abbrev mX10_isShelf : MI := (yX10_isShelf, cX10_isShelf, 1, some .boolean)
theorem wc_X10_isShelf : Cond.code mX10_isShelf.1 mX10_isShelf.2.1 mX10_isShelf.2.2.1 mX10_isShelf.2.2.2 ∈ gtb := gtb_in (List.mem_of_getElem? (i := 1129) (by decide +kernel)) rfl
theorem wst_X10_isShelf : Cond.static yX10_isShelf ∈ gtb := gtb_in (List.mem_of_getElem? (i := 1128) (by decide +kernel)) rfl
abbrev mX10_keep : MI := (yX10_keep, cX10_keep, 3, some .int)
theorem wc_X10_keep : Cond.code mX10_keep.1 mX10_keep.2.1 mX10_keep.2.2.1 mX10_keep.2.2.2 ∈ gtb := gtb_in (List.mem_of_getElem? (i := 1572) (by decide +kernel)) rfl
theorem wi_X10_keep : Cond.instanceMethod yX10_keep ∈ gtb := gtb_in (List.mem_of_getElem? (i := 1570) (by decide +kernel)) rfl
theorem ws_X10_keep : Cond.selects RX10 yX10_keep yX10_keep ∈ gtb := gtb_in (List.mem_of_getElem? (i := 1571) (by decide +kernel)) rfl
abbrev mX10_row : MI := (yX10_row, cX10_row, 5, some .int)
theorem wc_X10_row : Cond.code mX10_row.1 mX10_row.2.1 mX10_row.2.2.1 mX10_row.2.2.2 ∈ gtb := gtb_in (List.mem_of_getElem? (i := 1576) (by decide +kernel)) rfl
theorem wi_X10_row : Cond.instanceMethod yX10_row ∈ gtb := gtb_in (List.mem_of_getElem? (i := 1574) (by decide +kernel)) rfl
theorem ws_X10_row : Cond.selects RX10 yX10_row yX10_row ∈ gtb := gtb_in (List.mem_of_getElem? (i := 1575) (by decide +kernel)) rfl
abbrev mX10_whyNoPlace : MI := (yX10_whyNoPlace, cX10_whyNoPlace, 3, some .int)
theorem wc_X10_whyNoPlace : Cond.code mX10_whyNoPlace.1 mX10_whyNoPlace.2.1 mX10_whyNoPlace.2.2.1 mX10_whyNoPlace.2.2.2 ∈ gtb := gtb_in (List.mem_of_getElem? (i := 1584) (by decide +kernel)) rfl
theorem wi_X10_whyNoPlace : Cond.instanceMethod yX10_whyNoPlace ∈ gtb := gtb_in (List.mem_of_getElem? (i := 1583) (by decide +kernel)) rfl
theorem ws_X10_whyNoPlace : Cond.selects RX10 yX10_whyNoPlace yX10_whyNoPlace ∈ gtb := gtb_in (List.mem_of_getElem? (i := 106) (by decide +kernel)) rfl
abbrev mX10_put : MI := (yX10_put, cX10_put, 7, some .int)
theorem wc_X10_put : Cond.code mX10_put.1 mX10_put.2.1 mX10_put.2.2.1 mX10_put.2.2.2 ∈ gtb := gtb_in (List.mem_of_getElem? (i := 1580) (by decide +kernel)) rfl
theorem wi_X10_put : Cond.instanceMethod yX10_put ∈ gtb := gtb_in (List.mem_of_getElem? (i := 1578) (by decide +kernel)) rfl
theorem ws_X10_put : Cond.selects RX10 yX10_put yX10_put ∈ gtb := gtb_in (List.mem_of_getElem? (i := 1579) (by decide +kernel)) rfl
abbrev mX10_element : MI := (yX10_element, cX10_element, 3, some .long)
theorem wc_X10_element : Cond.code mX10_element.1 mX10_element.2.1 mX10_element.2.2.1 mX10_element.2.2.2 ∈ gtb := gtb_in (List.mem_of_getElem? (i := 1588) (by decide +kernel)) rfl
theorem wi_X10_element : Cond.instanceMethod yX10_element ∈ gtb := gtb_in (List.mem_of_getElem? (i := 1586) (by decide +kernel)) rfl
theorem ws_X10_element : Cond.selects RX10 yX10_element yX10_element ∈ gtb := gtb_in (List.mem_of_getElem? (i := 1587) (by decide +kernel)) rfl
abbrev mX10_shift : MI := (yX10_shift, cX10_shift, 7, some .int)
theorem wc_X10_shift : Cond.code mX10_shift.1 mX10_shift.2.1 mX10_shift.2.2.1 mX10_shift.2.2.2 ∈ gtb := gtb_in (List.mem_of_getElem? (i := 1592) (by decide +kernel)) rfl
theorem wi_X10_shift : Cond.instanceMethod yX10_shift ∈ gtb := gtb_in (List.mem_of_getElem? (i := 1590) (by decide +kernel)) rfl
theorem ws_X10_shift : Cond.selects RX10 yX10_shift yX10_shift ∈ gtb := gtb_in (List.mem_of_getElem? (i := 1591) (by decide +kernel)) rfl
abbrev mX10_taken : MI := (yX10_taken, cX10_taken, 3, some .int)
theorem wc_X10_taken : Cond.code mX10_taken.1 mX10_taken.2.1 mX10_taken.2.2.1 mX10_taken.2.2.2 ∈ gtb := gtb_in (List.mem_of_getElem? (i := 1596) (by decide +kernel)) rfl
theorem wi_X10_taken : Cond.instanceMethod yX10_taken ∈ gtb := gtb_in (List.mem_of_getElem? (i := 1594) (by decide +kernel)) rfl
theorem ws_X10_taken : Cond.selects RX10 yX10_taken yX10_taken ∈ gtb := gtb_in (List.mem_of_getElem? (i := 1595) (by decide +kernel)) rfl
abbrev mJ6_bitCount_0f7a4 : MI := (yJ6_bitCount_0f7a4, cJ6_bitCount_0f7a4, 1, some .int)
theorem wc_J6_bitCount_0f7a4 : Cond.code mJ6_bitCount_0f7a4.1 mJ6_bitCount_0f7a4.2.1 mJ6_bitCount_0f7a4.2.2.1 mJ6_bitCount_0f7a4.2.2.2 ∈ gtb := gtb_in (List.mem_of_getElem? (i := 707) (by decide +kernel)) rfl
theorem wst_J6_bitCount_0f7a4 : Cond.static yJ6_bitCount_0f7a4 ∈ gtb := gtb_in (List.mem_of_getElem? (i := 706) (by decide +kernel)) rfl
abbrev mJ9_max_7cf53 : MI := (yJ9_max_7cf53, cJ9_max_7cf53, 2, some .int)
theorem wc_J9_max_7cf53 : Cond.code mJ9_max_7cf53.1 mJ9_max_7cf53.2.1 mJ9_max_7cf53.2.2.1 mJ9_max_7cf53.2.2.2 ∈ gtb := gtb_in (List.mem_of_getElem? (i := 586) (by decide +kernel)) rfl
theorem wst_J9_max_7cf53 : Cond.static yJ9_max_7cf53 ∈ gtb := gtb_in (List.mem_of_getElem? (i := 585) (by decide +kernel)) rfl
abbrev mJ9_min_7cf53 : MI := (yJ9_min_7cf53, cJ9_min_7cf53, 2, some .int)
theorem wc_J9_min_7cf53 : Cond.code mJ9_min_7cf53.1 mJ9_min_7cf53.2.1 mJ9_min_7cf53.2.2.1 mJ9_min_7cf53.2.2.2 ∈ gtb := gtb_in (List.mem_of_getElem? (i := 608) (by decide +kernel)) rfl
theorem wst_J9_min_7cf53 : Cond.static yJ9_min_7cf53 ∈ gtb := gtb_in (List.mem_of_getElem? (i := 607) (by decide +kernel)) rfl
abbrev mJ7_fill_d0a16 : MI := (yJ7_fill_d0a16, cJ7_fill_d0a16, 5, none)
theorem wc_J7_fill_d0a16 : Cond.code mJ7_fill_d0a16.1 mJ7_fill_d0a16.2.1 mJ7_fill_d0a16.2.2.1 mJ7_fill_d0a16.2.2.2 ∈ gtb := gtb_in (List.mem_of_getElem? (i := 731) (by decide +kernel)) rfl
theorem wst_J7_fill_d0a16 : Cond.static yJ7_fill_d0a16 ∈ gtb := gtb_in (List.mem_of_getElem? (i := 730) (by decide +kernel)) rfl
abbrev mJ7_fill_53178 : MI := (yJ7_fill_53178, cJ7_fill_53178, 4, none)
theorem wc_J7_fill_53178 : Cond.code mJ7_fill_53178.1 mJ7_fill_53178.2.1 mJ7_fill_53178.2.2.1 mJ7_fill_53178.2.2.2 ∈ gtb := gtb_in (List.mem_of_getElem? (i := 314) (by decide +kernel)) rfl
theorem wst_J7_fill_53178 : Cond.static yJ7_fill_53178 ∈ gtb := gtb_in (List.mem_of_getElem? (i := 313) (by decide +kernel)) rfl
abbrev mJ7_fill_031fb : MI := (yJ7_fill_031fb, cJ7_fill_031fb, 4, none)
theorem wc_J7_fill_031fb : Cond.code mJ7_fill_031fb.1 mJ7_fill_031fb.2.1 mJ7_fill_031fb.2.2.1 mJ7_fill_031fb.2.2.2 ∈ gtb := gtb_in (List.mem_of_getElem? (i := 478) (by decide +kernel)) rfl
theorem wst_J7_fill_031fb : Cond.static yJ7_fill_031fb ∈ gtb := gtb_in (List.mem_of_getElem? (i := 477) (by decide +kernel)) rfl
