theorem mk_B_init : Mok Y_B_init 0 := ⟨gd_in (in_t1 (List.mem_of_getElem? (i := 28) rfl)) rfl, gd_in (in_t1 (List.mem_of_getElem? (i := 1) rfl)) rfl, by decide, by decide, by decide +kernel⟩
theorem mi_B_init : MokI Y_B_init 0 := ⟨mk_B_init, gd_in (in_t1 (List.mem_of_getElem? (i := 27) rfl)) rfl, rfl, rfl⟩
theorem mk_Sq_init : Mok Y_Sq_init 0 := ⟨gd_in (in_t1 (List.mem_of_getElem? (i := 36) rfl)) rfl, gd_in (in_t1 (List.mem_of_getElem? (i := 2) rfl)) rfl, by decide, by decide, by decide +kernel⟩
theorem mi_Sq_init : MokI Y_Sq_init 0 := ⟨mk_Sq_init, gd_in (in_t1 (List.mem_of_getElem? (i := 35) rfl)) rfl, rfl, rfl⟩
theorem mk_Wl_init : Mok Y_Wl_init 0 := ⟨gd_in (in_t1 (List.mem_of_getElem? (i := 43) rfl)) rfl, gd_in (in_t1 (List.mem_of_getElem? (i := 3) rfl)) rfl, by decide, by decide, by decide +kernel⟩
theorem mi_Wl_init : MokI Y_Wl_init 0 := ⟨mk_Wl_init, gd_in (in_t1 (List.mem_of_getElem? (i := 42) rfl)) rfl, rfl, rfl⟩
theorem mk_Hd_init : Mok Y_Hd_init 1 := ⟨gd_in (in_t1 (List.mem_of_getElem? (i := 89) rfl)) rfl, gd_in (in_t1 (List.mem_of_getElem? (i := 4) rfl)) rfl, by decide, by decide, by decide +kernel⟩
theorem mi_Hd_init : MokI Y_Hd_init 1 := ⟨mk_Hd_init, gd_in (in_t1 (List.mem_of_getElem? (i := 88) rfl)) rfl, rfl, rfl⟩
theorem mk_Ar_fill : Mok Y_Ar_fill 2 := ⟨gd_in (in_t1 (List.mem_of_getElem? (i := 149) rfl)) rfl, gd_in (in_t1 (List.mem_of_getElem? (i := 5) rfl)) rfl, by decide, by decide, by decide +kernel⟩
theorem ms_Ar_fill : MokS Y_Ar_fill 2 := ⟨mk_Ar_fill, gd_in (in_t1 (List.mem_of_getElem? (i := 148) rfl)) rfl⟩
theorem mk_Sh_init : Mok Y_Sh_init 0 := ⟨gd_in (in_t1 (List.mem_of_getElem? (i := 155) rfl)) rfl, gd_in (in_t1 (List.mem_of_getElem? (i := 6) rfl)) rfl, by decide, by decide, by decide +kernel⟩
theorem mi_Sh_init : MokI Y_Sh_init 0 := ⟨mk_Sh_init, gd_in (in_t1 (List.mem_of_getElem? (i := 154) rfl)) rfl, rfl, rfl⟩
theorem mk_Rd_init : Mok Y_Rd_init 0 := ⟨gd_in (in_t1 (List.mem_of_getElem? (i := 179) rfl)) rfl, gd_in (in_t1 (List.mem_of_getElem? (i := 7) rfl)) rfl, by decide, by decide, by decide +kernel⟩
theorem mi_Rd_init : MokI Y_Rd_init 0 := ⟨mk_Rd_init, gd_in (in_t1 (List.mem_of_getElem? (i := 178) rfl)) rfl, rfl, rfl⟩
theorem mk_Cw_init : Mok Y_Cw_init 1 := ⟨gd_in (in_t2 (List.mem_of_getElem? (i := 7) rfl)) rfl, gd_in (in_t1 (List.mem_of_getElem? (i := 8) rfl)) rfl, by decide, by decide, by decide +kernel⟩
theorem mi_Cw_init : MokI Y_Cw_init 1 := ⟨mk_Cw_init, gd_in (in_t2 (List.mem_of_getElem? (i := 6) rfl)) rfl, rfl, rfl⟩
theorem mk_Sc_init : Mok Y_Sc_init 0 := ⟨gd_in (in_t2 (List.mem_of_getElem? (i := 14) rfl)) rfl, gd_in (in_t1 (List.mem_of_getElem? (i := 9) rfl)) rfl, by decide, by decide, by decide +kernel⟩
theorem mi_Sc_init : MokI Y_Sc_init 0 := ⟨mk_Sc_init, gd_in (in_t2 (List.mem_of_getElem? (i := 13) rfl)) rfl, rfl, rfl⟩
theorem mk_Sp_init : Mok Y_Sp_init 1 := ⟨gd_in (in_t2 (List.mem_of_getElem? (i := 66) rfl)) rfl, gd_in (in_t1 (List.mem_of_getElem? (i := 10) rfl)) rfl, by decide, by decide, by decide +kernel⟩
theorem mi_Sp_init : MokI Y_Sp_init 1 := ⟨mk_Sp_init, gd_in (in_t2 (List.mem_of_getElem? (i := 65) rfl)) rfl, rfl, rfl⟩
theorem mk_Ma_max : Mok Y_Ma_max 2 := ⟨gd_in (in_t2 (List.mem_of_getElem? (i := 70) rfl)) rfl, gd_in (in_t1 (List.mem_of_getElem? (i := 11) rfl)) rfl, by decide, by decide, by decide +kernel⟩
theorem ms_Ma_max : MokS Y_Ma_max 2 := ⟨mk_Ma_max, gd_in (in_t2 (List.mem_of_getElem? (i := 69) rfl)) rfl⟩
theorem mk_Tp_init : Mok Y_Tp_init 2 := ⟨gd_in (in_t2 (List.mem_of_getElem? (i := 93) rfl)) rfl, gd_in (in_t1 (List.mem_of_getElem? (i := 12) rfl)) rfl, by decide, by decide, by decide +kernel⟩
theorem mi_Tp_init : MokI Y_Tp_init 2 := ⟨mk_Tp_init, gd_in (in_t2 (List.mem_of_getElem? (i := 92) rfl)) rfl, rfl, rfl⟩
theorem mk_Ns_init : Mok Y_Ns_init 0 := ⟨gd_in (in_t2 (List.mem_of_getElem? (i := 147) rfl)) rfl, gd_in (in_t1 (List.mem_of_getElem? (i := 13) rfl)) rfl, by decide, by decide, by decide +kernel⟩
theorem mi_Ns_init : MokI Y_Ns_init 0 := ⟨mk_Ns_init, gd_in (in_t2 (List.mem_of_getElem? (i := 146) rfl)) rfl, rfl, rfl⟩
theorem mk_Rf_init : Mok Y_Rf_init 2 := ⟨gd_in (in_t2 (List.mem_of_getElem? (i := 179) rfl)) rfl, gd_in (in_t1 (List.mem_of_getElem? (i := 14) rfl)) rfl, by decide, by decide, by decide +kernel⟩
theorem mi_Rf_init : MokI Y_Rf_init 2 := ⟨mk_Rf_init, gd_in (in_t2 (List.mem_of_getElem? (i := 178) rfl)) rfl, rfl, rfl⟩
theorem mk_B_set : Mok Y_B_set 2 := ⟨gd_in (in_t3 (List.mem_of_getElem? (i := 13) rfl)) rfl, gd_in (in_t1 (List.mem_of_getElem? (i := 1) rfl)) rfl, by decide, by decide, by decide +kernel⟩
theorem mv_B_set : MokV Y_B_set 2 := ⟨mk_B_set, gd_in (in_t3 (List.mem_of_getElem? (i := 11) rfl)) rfl, gd_in (in_t3 (List.mem_of_getElem? (i := 12) rfl)) rfl⟩
theorem mk_B_within : Mok Y_B_within 3 := ⟨gd_in (in_t3 (List.mem_of_getElem? (i := 16) rfl)) rfl, gd_in (in_t1 (List.mem_of_getElem? (i := 1) rfl)) rfl, by decide, by decide, by decide +kernel⟩
theorem ms_B_within : MokS Y_B_within 3 := ⟨mk_B_within, gd_in (in_t3 (List.mem_of_getElem? (i := 15) rfl)) rfl⟩
theorem mk_B_comes : Mok Y_B_comes 3 := ⟨gd_in (in_t3 (List.mem_of_getElem? (i := 20) rfl)) rfl, gd_in (in_t1 (List.mem_of_getElem? (i := 1) rfl)) rfl, by decide, by decide, by decide +kernel⟩
theorem mv_B_comes : MokV Y_B_comes 3 := ⟨mk_B_comes, gd_in (in_t3 (List.mem_of_getElem? (i := 18) rfl)) rfl, gd_in (in_t3 (List.mem_of_getElem? (i := 19) rfl)) rfl⟩
theorem mk_B_isCell : Mok Y_B_isCell 1 := ⟨gd_in (in_t3 (List.mem_of_getElem? (i := 23) rfl)) rfl, gd_in (in_t1 (List.mem_of_getElem? (i := 1) rfl)) rfl, by decide, by decide, by decide +kernel⟩
theorem ms_B_isCell : MokS Y_B_isCell 1 := ⟨mk_B_isCell, gd_in (in_t3 (List.mem_of_getElem? (i := 22) rfl)) rfl⟩
theorem mk_Sq_travel : Mok Y_Sq_travel 2 := ⟨gd_in (in_t3 (List.mem_of_getElem? (i := 27) rfl)) rfl, gd_in (in_t1 (List.mem_of_getElem? (i := 2) rfl)) rfl, by decide, by decide, by decide +kernel⟩
theorem mv_Sq_travel : MokV Y_Sq_travel 2 := ⟨mk_Sq_travel, gd_in (in_t3 (List.mem_of_getElem? (i := 25) rfl)) rfl, gd_in (in_t3 (List.mem_of_getElem? (i := 26) rfl)) rfl⟩
theorem mk_B_column : Mok Y_B_column 1 := ⟨gd_in (in_t3 (List.mem_of_getElem? (i := 30) rfl)) rfl, gd_in (in_t1 (List.mem_of_getElem? (i := 1) rfl)) rfl, by decide, by decide, by decide +kernel⟩
theorem ms_B_column : MokS Y_B_column 1 := ⟨mk_B_column, gd_in (in_t3 (List.mem_of_getElem? (i := 29) rfl)) rfl⟩
theorem mk_B_row : Mok Y_B_row 1 := ⟨gd_in (in_t3 (List.mem_of_getElem? (i := 33) rfl)) rfl, gd_in (in_t1 (List.mem_of_getElem? (i := 1) rfl)) rfl, by decide, by decide, by decide +kernel⟩
theorem ms_B_row : MokS Y_B_row 1 := ⟨mk_B_row, gd_in (in_t3 (List.mem_of_getElem? (i := 32) rfl)) rfl⟩
theorem mk_Ma_floorDiv : Mok Y_Ma_floorDiv 2 := ⟨gd_in (in_t3 (List.mem_of_getElem? (i := 36) rfl)) rfl, gd_in (in_t1 (List.mem_of_getElem? (i := 11) rfl)) rfl, by decide, by decide, by decide +kernel⟩
theorem ms_Ma_floorDiv : MokS Y_Ma_floorDiv 2 := ⟨mk_Ma_floorDiv, gd_in (in_t3 (List.mem_of_getElem? (i := 35) rfl)) rfl⟩
theorem mk_B_distance : Mok Y_B_distance 2 := ⟨gd_in (in_t3 (List.mem_of_getElem? (i := 39) rfl)) rfl, gd_in (in_t1 (List.mem_of_getElem? (i := 1) rfl)) rfl, by decide, by decide, by decide +kernel⟩
theorem ms_B_distance : MokS Y_B_distance 2 := ⟨mk_B_distance, gd_in (in_t3 (List.mem_of_getElem? (i := 38) rfl)) rfl⟩
theorem mk_B_between : Mok Y_B_between 2 := ⟨gd_in (in_t3 (List.mem_of_getElem? (i := 43) rfl)) rfl, gd_in (in_t1 (List.mem_of_getElem? (i := 1) rfl)) rfl, by decide, by decide, by decide +kernel⟩
theorem ms_B_between : MokS Y_B_between 2 := ⟨mk_B_between, gd_in (in_t3 (List.mem_of_getElem? (i := 42) rfl)) rfl⟩
theorem mk_B_loudness : Mok Y_B_loudness 1 := ⟨gd_in (in_t3 (List.mem_of_getElem? (i := 49) rfl)) rfl, gd_in (in_t1 (List.mem_of_getElem? (i := 1) rfl)) rfl, by decide, by decide, by decide +kernel⟩
theorem ms_B_loudness : MokS Y_B_loudness 1 := ⟨mk_B_loudness, gd_in (in_t3 (List.mem_of_getElem? (i := 48) rfl)) rfl⟩
theorem mk_B_sectorOf : Mok Y_B_sectorOf 2 := ⟨gd_in (in_t3 (List.mem_of_getElem? (i := 52) rfl)) rfl, gd_in (in_t1 (List.mem_of_getElem? (i := 1) rfl)) rfl, by decide, by decide, by decide +kernel⟩
theorem ms_B_sectorOf : MokS Y_B_sectorOf 2 := ⟨mk_B_sectorOf, gd_in (in_t3 (List.mem_of_getElem? (i := 51) rfl)) rfl⟩
theorem mk_B_upperSector : Mok Y_B_upperSector 2 := ⟨gd_in (in_t3 (List.mem_of_getElem? (i := 55) rfl)) rfl, gd_in (in_t1 (List.mem_of_getElem? (i := 1) rfl)) rfl, by decide, by decide, by decide +kernel⟩
theorem ms_B_upperSector : MokS Y_B_upperSector 2 := ⟨mk_B_upperSector, gd_in (in_t3 (List.mem_of_getElem? (i := 54) rfl)) rfl⟩
theorem mk_B_wall : Mok Y_B_wall 5 := ⟨gd_in (in_t3 (List.mem_of_getElem? (i := 59) rfl)) rfl, gd_in (in_t1 (List.mem_of_getElem? (i := 1) rfl)) rfl, by decide, by decide, by decide +kernel⟩
theorem mv_B_wall : MokV Y_B_wall 5 := ⟨mk_B_wall, gd_in (in_t3 (List.mem_of_getElem? (i := 57) rfl)) rfl, gd_in (in_t3 (List.mem_of_getElem? (i := 58) rfl)) rfl⟩
theorem mk_Wl_build : Mok Y_Wl_build 5 := ⟨gd_in (in_t3 (List.mem_of_getElem? (i := 63) rfl)) rfl, gd_in (in_t1 (List.mem_of_getElem? (i := 3) rfl)) rfl, by decide, by decide, by decide +kernel⟩
theorem mv_Wl_build : MokV Y_Wl_build 5 := ⟨mk_Wl_build, gd_in (in_t3 (List.mem_of_getElem? (i := 61) rfl)) rfl, gd_in (in_t3 (List.mem_of_getElem? (i := 62) rfl)) rfl⟩
theorem mk_B_spot : Mok Y_B_spot 2 := ⟨gd_in (in_t3 (List.mem_of_getElem? (i := 67) rfl)) rfl, gd_in (in_t1 (List.mem_of_getElem? (i := 1) rfl)) rfl, by decide, by decide, by decide +kernel⟩
theorem mv_B_spot : MokV Y_B_spot 2 := ⟨mk_B_spot, gd_in (in_t3 (List.mem_of_getElem? (i := 65) rfl)) rfl, gd_in (in_t3 (List.mem_of_getElem? (i := 66) rfl)) rfl⟩
theorem mk_B_shot : Mok Y_B_shot 4 := ⟨gd_in (in_t3 (List.mem_of_getElem? (i := 71) rfl)) rfl, gd_in (in_t1 (List.mem_of_getElem? (i := 1) rfl)) rfl, by decide, by decide, by decide +kernel⟩
theorem mv_B_shot : MokV Y_B_shot 4 := ⟨mk_B_shot, gd_in (in_t3 (List.mem_of_getElem? (i := 69) rfl)) rfl, gd_in (in_t3 (List.mem_of_getElem? (i := 70) rfl)) rfl⟩
theorem mk_B_isBall : Mok Y_B_isBall 2 := ⟨gd_in (in_t3 (List.mem_of_getElem? (i := 75) rfl)) rfl, gd_in (in_t1 (List.mem_of_getElem? (i := 1) rfl)) rfl, by decide, by decide, by decide +kernel⟩
theorem ms_B_isBall : MokS Y_B_isBall 2 := ⟨mk_B_isBall, gd_in (in_t3 (List.mem_of_getElem? (i := 74) rfl)) rfl⟩
theorem mk_Sh_fire : Mok Y_Sh_fire 4 := ⟨gd_in (in_t3 (List.mem_of_getElem? (i := 79) rfl)) rfl, gd_in (in_t1 (List.mem_of_getElem? (i := 6) rfl)) rfl, by decide, by decide, by decide +kernel⟩
theorem mv_Sh_fire : MokV Y_Sh_fire 4 := ⟨mk_Sh_fire, gd_in (in_t3 (List.mem_of_getElem? (i := 77) rfl)) rfl, gd_in (in_t3 (List.mem_of_getElem? (i := 78) rfl)) rfl⟩
theorem mk_B_gets : Mok Y_B_gets 3 := ⟨gd_in (in_t3 (List.mem_of_getElem? (i := 83) rfl)) rfl, gd_in (in_t1 (List.mem_of_getElem? (i := 1) rfl)) rfl, by decide, by decide, by decide +kernel⟩
theorem mv_B_gets : MokV Y_B_gets 3 := ⟨mk_B_gets, gd_in (in_t3 (List.mem_of_getElem? (i := 81) rfl)) rfl, gd_in (in_t3 (List.mem_of_getElem? (i := 82) rfl)) rfl⟩
theorem mk_Hd_listen : Mok Y_Hd_listen 2 := ⟨gd_in (in_t3 (List.mem_of_getElem? (i := 87) rfl)) rfl, gd_in (in_t1 (List.mem_of_getElem? (i := 4) rfl)) rfl, by decide, by decide, by decide +kernel⟩
theorem mv_Hd_listen : MokV Y_Hd_listen 2 := ⟨mk_Hd_listen, gd_in (in_t3 (List.mem_of_getElem? (i := 85) rfl)) rfl, gd_in (in_t3 (List.mem_of_getElem? (i := 86) rfl)) rfl⟩
theorem mk_Hd_listenCrack : Mok Y_Hd_listenCrack 2 := ⟨gd_in (in_t3 (List.mem_of_getElem? (i := 93) rfl)) rfl, gd_in (in_t1 (List.mem_of_getElem? (i := 4) rfl)) rfl, by decide, by decide, by decide +kernel⟩
theorem mv_Hd_listenCrack : MokV Y_Hd_listenCrack 2 := ⟨mk_Hd_listenCrack, gd_in (in_t3 (List.mem_of_getElem? (i := 92) rfl)) rfl, gd_in (List.mem_append_left _ (List.mem_map.mpr ⟨_, List.mem_append_left _ (List.mem_of_getElem? (i := 0) rfl), rfl⟩)) rfl⟩
theorem mk_Ma_abs : Mok Y_Ma_abs 1 := ⟨gd_in (in_t3 (List.mem_of_getElem? (i := 98) rfl)) rfl, gd_in (in_t1 (List.mem_of_getElem? (i := 11) rfl)) rfl, by decide, by decide, by decide +kernel⟩
theorem ms_Ma_abs : MokS Y_Ma_abs 1 := ⟨mk_Ma_abs, gd_in (in_t3 (List.mem_of_getElem? (i := 97) rfl)) rfl⟩
theorem mk_Hd_listenBack : Mok Y_Hd_listenBack 2 := ⟨gd_in (in_t3 (List.mem_of_getElem? (i := 105) rfl)) rfl, gd_in (in_t1 (List.mem_of_getElem? (i := 4) rfl)) rfl, by decide, by decide, by decide +kernel⟩
theorem mv_Hd_listenBack : MokV Y_Hd_listenBack 2 := ⟨mk_Hd_listenBack, gd_in (in_t3 (List.mem_of_getElem? (i := 104) rfl)) rfl, gd_in (List.mem_append_left _ (List.mem_map.mpr ⟨_, List.mem_append_left _ (List.mem_of_getElem? (i := 1) rfl), rfl⟩)) rfl⟩
theorem mk_Wl_crossing : Mok Y_Wl_crossing 2 := ⟨gd_in (in_t3 (List.mem_of_getElem? (i := 109) rfl)) rfl, gd_in (in_t1 (List.mem_of_getElem? (i := 3) rfl)) rfl, by decide, by decide, by decide +kernel⟩
theorem mv_Wl_crossing : MokV Y_Wl_crossing 2 := ⟨mk_Wl_crossing, gd_in (in_t3 (List.mem_of_getElem? (i := 107) rfl)) rfl, gd_in (in_t3 (List.mem_of_getElem? (i := 108) rfl)) rfl⟩
theorem mk_Wl_side : Mok Y_Wl_side 1 := ⟨gd_in (in_t3 (List.mem_of_getElem? (i := 113) rfl)) rfl, gd_in (in_t1 (List.mem_of_getElem? (i := 3) rfl)) rfl, by decide, by decide, by decide +kernel⟩
theorem mv_Wl_side : MokV Y_Wl_side 1 := ⟨mk_Wl_side, gd_in (in_t3 (List.mem_of_getElem? (i := 111) rfl)) rfl, gd_in (in_t3 (List.mem_of_getElem? (i := 112) rfl)) rfl⟩
theorem mk_Wl_along : Mok Y_Wl_along 1 := ⟨gd_in (in_t3 (List.mem_of_getElem? (i := 120) rfl)) rfl, gd_in (in_t1 (List.mem_of_getElem? (i := 3) rfl)) rfl, by decide, by decide, by decide +kernel⟩
theorem mv_Wl_along : MokV Y_Wl_along 1 := ⟨mk_Wl_along, gd_in (in_t3 (List.mem_of_getElem? (i := 118) rfl)) rfl, gd_in (in_t3 (List.mem_of_getElem? (i := 119) rfl)) rfl⟩
theorem mk_Wl_wayBack : Mok Y_Wl_wayBack 2 := ⟨gd_in (in_t3 (List.mem_of_getElem? (i := 124) rfl)) rfl, gd_in (in_t1 (List.mem_of_getElem? (i := 3) rfl)) rfl, by decide, by decide, by decide +kernel⟩
theorem mv_Wl_wayBack : MokV Y_Wl_wayBack 2 := ⟨mk_Wl_wayBack, gd_in (in_t3 (List.mem_of_getElem? (i := 122) rfl)) rfl, gd_in (in_t3 (List.mem_of_getElem? (i := 123) rfl)) rfl⟩
theorem mk_B_getsBack : Mok Y_B_getsBack 1 := ⟨gd_in (in_t3 (List.mem_of_getElem? (i := 129) rfl)) rfl, gd_in (in_t1 (List.mem_of_getElem? (i := 1) rfl)) rfl, by decide, by decide, by decide +kernel⟩
theorem mv_B_getsBack : MokV Y_B_getsBack 1 := ⟨mk_B_getsBack, gd_in (in_t3 (List.mem_of_getElem? (i := 128) rfl)) rfl, gd_in (List.mem_append_left _ (List.mem_map.mpr ⟨_, List.mem_append_left _ (List.mem_of_getElem? (i := 2) rfl), rfl⟩)) rfl⟩
theorem mk_B_feed : Mok Y_B_feed 5 := ⟨gd_in (in_t3 (List.mem_of_getElem? (i := 133) rfl)) rfl, gd_in (in_t1 (List.mem_of_getElem? (i := 1) rfl)) rfl, by decide, by decide, by decide +kernel⟩
theorem mv_B_feed : MokV Y_B_feed 5 := ⟨mk_B_feed, gd_in (in_t3 (List.mem_of_getElem? (i := 131) rfl)) rfl, gd_in (in_t3 (List.mem_of_getElem? (i := 132) rfl)) rfl⟩
theorem mk_Rd_append : Mok Y_Rd_append 1 := ⟨gd_in (in_t3 (List.mem_of_getElem? (i := 137) rfl)) rfl, gd_in (in_t1 (List.mem_of_getElem? (i := 7) rfl)) rfl, by decide, by decide, by decide +kernel⟩
theorem mv_Rd_append : MokV Y_Rd_append 1 := ⟨mk_Rd_append, gd_in (in_t3 (List.mem_of_getElem? (i := 135) rfl)) rfl, gd_in (in_t3 (List.mem_of_getElem? (i := 136) rfl)) rfl⟩
theorem mk_B_end : Mok Y_B_end 1 := ⟨gd_in (in_t3 (List.mem_of_getElem? (i := 141) rfl)) rfl, gd_in (in_t1 (List.mem_of_getElem? (i := 1) rfl)) rfl, by decide, by decide, by decide +kernel⟩
theorem mv_B_end : MokV Y_B_end 1 := ⟨mk_B_end, gd_in (in_t3 (List.mem_of_getElem? (i := 139) rfl)) rfl, gd_in (in_t3 (List.mem_of_getElem? (i := 140) rfl)) rfl⟩
theorem mk_B_text : Mok Y_B_text 1 := ⟨gd_in (in_t3 (List.mem_of_getElem? (i := 145) rfl)) rfl, gd_in (in_t1 (List.mem_of_getElem? (i := 1) rfl)) rfl, by decide, by decide, by decide +kernel⟩
theorem mv_B_text : MokV Y_B_text 1 := ⟨mk_B_text, gd_in (in_t3 (List.mem_of_getElem? (i := 143) rfl)) rfl, gd_in (in_t3 (List.mem_of_getElem? (i := 144) rfl)) rfl⟩
theorem mk_Rd_drop : Mok Y_Rd_drop 0 := ⟨gd_in (in_t3 (List.mem_of_getElem? (i := 149) rfl)) rfl, gd_in (in_t1 (List.mem_of_getElem? (i := 7) rfl)) rfl, by decide, by decide, by decide +kernel⟩
theorem mv_Rd_drop : MokV Y_Rd_drop 0 := ⟨mk_Rd_drop, gd_in (in_t3 (List.mem_of_getElem? (i := 147) rfl)) rfl, gd_in (in_t3 (List.mem_of_getElem? (i := 148) rfl)) rfl⟩
theorem mk_Rd_read : Mok Y_Rd_read 2 := ⟨gd_in (in_t3 (List.mem_of_getElem? (i := 153) rfl)) rfl, gd_in (in_t1 (List.mem_of_getElem? (i := 7) rfl)) rfl, by decide, by decide, by decide +kernel⟩
theorem mv_Rd_read : MokV Y_Rd_read 2 := ⟨mk_Rd_read, gd_in (in_t3 (List.mem_of_getElem? (i := 151) rfl)) rfl, gd_in (in_t3 (List.mem_of_getElem? (i := 152) rfl)) rfl⟩
theorem mk_Rd_start : Mok Y_Rd_start 1 := ⟨gd_in (in_t3 (List.mem_of_getElem? (i := 157) rfl)) rfl, gd_in (in_t1 (List.mem_of_getElem? (i := 7) rfl)) rfl, by decide, by decide, by decide +kernel⟩
theorem mv_Rd_start : MokV Y_Rd_start 1 := ⟨mk_Rd_start, gd_in (in_t3 (List.mem_of_getElem? (i := 156) rfl)) rfl, gd_in (List.mem_append_left _ (List.mem_map.mpr ⟨_, List.mem_append_left _ (List.mem_of_getElem? (i := 3) rfl), rfl⟩)) rfl⟩
theorem mk_Rd_scan : Mok Y_Rd_scan 0 := ⟨gd_in (in_t3 (List.mem_of_getElem? (i := 161) rfl)) rfl, gd_in (in_t1 (List.mem_of_getElem? (i := 7) rfl)) rfl, by decide, by decide, by decide +kernel⟩
theorem mv_Rd_scan : MokV Y_Rd_scan 0 := ⟨mk_Rd_scan, gd_in (in_t3 (List.mem_of_getElem? (i := 160) rfl)) rfl, gd_in (List.mem_append_left _ (List.mem_map.mpr ⟨_, List.mem_append_left _ (List.mem_of_getElem? (i := 4) rfl), rfl⟩)) rfl⟩
theorem mk_Rd_byteAt : Mok Y_Rd_byteAt 1 := ⟨gd_in (in_t3 (List.mem_of_getElem? (i := 165) rfl)) rfl, gd_in (in_t1 (List.mem_of_getElem? (i := 7) rfl)) rfl, by decide, by decide, by decide +kernel⟩
theorem mv_Rd_byteAt : MokV Y_Rd_byteAt 1 := ⟨mk_Rd_byteAt, gd_in (in_t3 (List.mem_of_getElem? (i := 164) rfl)) rfl, gd_in (List.mem_append_left _ (List.mem_map.mpr ⟨_, List.mem_append_left _ (List.mem_of_getElem? (i := 5) rfl), rfl⟩)) rfl⟩
theorem mk_Rd_isLetter : Mok Y_Rd_isLetter 1 := ⟨gd_in (in_t3 (List.mem_of_getElem? (i := 168) rfl)) rfl, gd_in (in_t1 (List.mem_of_getElem? (i := 7) rfl)) rfl, by decide, by decide, by decide +kernel⟩
theorem ms_Rd_isLetter : MokS Y_Rd_isLetter 1 := ⟨mk_Rd_isLetter, gd_in (in_t3 (List.mem_of_getElem? (i := 167) rfl)) rfl⟩
theorem mk_Rd_scanWord : Mok Y_Rd_scanWord 0 := ⟨gd_in (in_t3 (List.mem_of_getElem? (i := 173) rfl)) rfl, gd_in (in_t1 (List.mem_of_getElem? (i := 7) rfl)) rfl, by decide, by decide, by decide +kernel⟩
theorem mv_Rd_scanWord : MokV Y_Rd_scanWord 0 := ⟨mk_Rd_scanWord, gd_in (in_t3 (List.mem_of_getElem? (i := 172) rfl)) rfl, gd_in (List.mem_append_left _ (List.mem_map.mpr ⟨_, List.mem_append_left _ (List.mem_of_getElem? (i := 6) rfl), rfl⟩)) rfl⟩
theorem mk_Str_length : Mok Y_Str_length 0 := ⟨gd_in (in_t3 (List.mem_of_getElem? (i := 179) rfl)) rfl, gd_in (in_t1 (List.mem_of_getElem? (i := 16) rfl)) rfl, by decide, by decide, by decide +kernel⟩
theorem mv_Str_length : MokV Y_Str_length 0 := ⟨mk_Str_length, gd_in (in_t3 (List.mem_of_getElem? (i := 177) rfl)) rfl, gd_in (in_t3 (List.mem_of_getElem? (i := 178) rfl)) rfl⟩
theorem mk_Str_coder : Mok Y_Str_coder 0 := ⟨gd_in (in_t3 (List.mem_of_getElem? (i := 183) rfl)) rfl, gd_in (in_t1 (List.mem_of_getElem? (i := 16) rfl)) rfl, by decide, by decide, by decide +kernel⟩
theorem mv_Str_coder : MokV Y_Str_coder 0 := ⟨mk_Str_coder, gd_in (in_t3 (List.mem_of_getElem? (i := 181) rfl)) rfl, gd_in (in_t3 (List.mem_of_getElem? (i := 182) rfl)) rfl⟩
theorem mk_Rd_isWord : Mok Y_Rd_isWord 2 := ⟨gd_in (in_t3 (List.mem_of_getElem? (i := 189) rfl)) rfl, gd_in (in_t1 (List.mem_of_getElem? (i := 7) rfl)) rfl, by decide, by decide, by decide +kernel⟩
theorem mv_Rd_isWord : MokV Y_Rd_isWord 2 := ⟨mk_Rd_isWord, gd_in (in_t3 (List.mem_of_getElem? (i := 188) rfl)) rfl, gd_in (List.mem_append_left _ (List.mem_map.mpr ⟨_, List.mem_append_left _ (List.mem_of_getElem? (i := 7) rfl), rfl⟩)) rfl⟩
theorem mk_Str_charAt : Mok Y_Str_charAt 1 := ⟨gd_in (in_t3 (List.mem_of_getElem? (i := 193) rfl)) rfl, gd_in (in_t1 (List.mem_of_getElem? (i := 16) rfl)) rfl, by decide, by decide, by decide +kernel⟩
theorem mv_Str_charAt : MokV Y_Str_charAt 1 := ⟨mk_Str_charAt, gd_in (in_t3 (List.mem_of_getElem? (i := 191) rfl)) rfl, gd_in (in_t3 (List.mem_of_getElem? (i := 192) rfl)) rfl⟩
theorem mk_Str_isLatin1 : Mok Y_Str_isLatin1 0 := ⟨gd_in (in_t3 (List.mem_of_getElem? (i := 197) rfl)) rfl, gd_in (in_t1 (List.mem_of_getElem? (i := 16) rfl)) rfl, by decide, by decide, by decide +kernel⟩
theorem mv_Str_isLatin1 : MokV Y_Str_isLatin1 0 := ⟨mk_Str_isLatin1, gd_in (in_t3 (List.mem_of_getElem? (i := 195) rfl)) rfl, gd_in (in_t3 (List.mem_of_getElem? (i := 196) rfl)) rfl⟩
theorem mk_SL_charAt : Mok Y_SL_charAt 2 := ⟨gd_in (in_t3 (List.mem_of_getElem? (i := 200) rfl)) rfl, gd_in (in_t1 (List.mem_of_getElem? (i := 17) rfl)) rfl, by decide, by decide, by decide +kernel⟩
theorem ms_SL_charAt : MokS Y_SL_charAt 2 := ⟨mk_SL_charAt, gd_in (in_t3 (List.mem_of_getElem? (i := 199) rfl)) rfl⟩
theorem mk_Str_checkIndex : Mok Y_Str_checkIndex 2 := ⟨gd_in (in_t3 (List.mem_of_getElem? (i := 203) rfl)) rfl, gd_in (in_t1 (List.mem_of_getElem? (i := 16) rfl)) rfl, by decide, by decide, by decide +kernel⟩
theorem ms_Str_checkIndex : MokS Y_Str_checkIndex 2 := ⟨mk_Str_checkIndex, gd_in (in_t3 (List.mem_of_getElem? (i := 202) rfl)) rfl⟩
theorem mk_Pre_checkIndex : Mok Y_Pre_checkIndex 3 := ⟨gd_in (in_t3 (List.mem_of_getElem? (i := 208) rfl)) rfl, gd_in (in_t1 (List.mem_of_getElem? (i := 18) rfl)) rfl, by decide, by decide, by decide +kernel⟩
theorem ms_Pre_checkIndex : MokS Y_Pre_checkIndex 3 := ⟨mk_Pre_checkIndex, gd_in (in_t3 (List.mem_of_getElem? (i := 207) rfl)) rfl⟩
theorem mk_Rd_isDigit : Mok Y_Rd_isDigit 1 := ⟨gd_in (in_t3 (List.mem_of_getElem? (i := 230) rfl)) rfl, gd_in (in_t1 (List.mem_of_getElem? (i := 7) rfl)) rfl, by decide, by decide, by decide +kernel⟩
theorem ms_Rd_isDigit : MokS Y_Rd_isDigit 1 := ⟨mk_Rd_isDigit, gd_in (in_t3 (List.mem_of_getElem? (i := 229) rfl)) rfl⟩
theorem mk_Rd_scanNumber : Mok Y_Rd_scanNumber 0 := ⟨gd_in (in_t3 (List.mem_of_getElem? (i := 234) rfl)) rfl, gd_in (in_t1 (List.mem_of_getElem? (i := 7) rfl)) rfl, by decide, by decide, by decide +kernel⟩
theorem mv_Rd_scanNumber : MokV Y_Rd_scanNumber 0 := ⟨mk_Rd_scanNumber, gd_in (in_t3 (List.mem_of_getElem? (i := 233) rfl)) rfl, gd_in (List.mem_append_left _ (List.mem_map.mpr ⟨_, List.mem_append_left _ (List.mem_of_getElem? (i := 8) rfl), rfl⟩)) rfl⟩
theorem mk_Str_indexOf_0 : Mok Y_Str_indexOf_0 1 := ⟨gd_in (in_t3 (List.mem_of_getElem? (i := 239) rfl)) rfl, gd_in (in_t1 (List.mem_of_getElem? (i := 16) rfl)) rfl, by decide, by decide, by decide +kernel⟩
theorem mv_Str_indexOf_0 : MokV Y_Str_indexOf_0 1 := ⟨mk_Str_indexOf_0, gd_in (in_t3 (List.mem_of_getElem? (i := 237) rfl)) rfl, gd_in (in_t3 (List.mem_of_getElem? (i := 238) rfl)) rfl⟩
theorem mk_Str_indexOf_1 : Mok Y_Str_indexOf_1 2 := ⟨gd_in (in_t4 (List.mem_of_getElem? (i := 3) rfl)) rfl, gd_in (in_t1 (List.mem_of_getElem? (i := 16) rfl)) rfl, by decide, by decide, by decide +kernel⟩
theorem mv_Str_indexOf_1 : MokV Y_Str_indexOf_1 2 := ⟨mk_Str_indexOf_1, gd_in (in_t4 (List.mem_of_getElem? (i := 1) rfl)) rfl, gd_in (in_t4 (List.mem_of_getElem? (i := 2) rfl)) rfl⟩
theorem mk_SL_indexOf : Mok Y_SL_indexOf 4 := ⟨gd_in (in_t4 (List.mem_of_getElem? (i := 7) rfl)) rfl, gd_in (in_t1 (List.mem_of_getElem? (i := 17) rfl)) rfl, by decide, by decide, by decide +kernel⟩
theorem ms_SL_indexOf : MokS Y_SL_indexOf 4 := ⟨mk_SL_indexOf, gd_in (in_t4 (List.mem_of_getElem? (i := 6) rfl)) rfl⟩
theorem mk_SL_canEncode : Mok Y_SL_canEncode 1 := ⟨gd_in (in_t4 (List.mem_of_getElem? (i := 10) rfl)) rfl, gd_in (in_t1 (List.mem_of_getElem? (i := 17) rfl)) rfl, by decide, by decide, by decide +kernel⟩
theorem ms_SL_canEncode : MokS Y_SL_canEncode 1 := ⟨mk_SL_canEncode, gd_in (in_t4 (List.mem_of_getElem? (i := 9) rfl)) rfl⟩
theorem mk_Ma_min : Mok Y_Ma_min 2 := ⟨gd_in (in_t4 (List.mem_of_getElem? (i := 14) rfl)) rfl, gd_in (in_t1 (List.mem_of_getElem? (i := 11) rfl)) rfl, by decide, by decide, by decide +kernel⟩
theorem ms_Ma_min : MokS Y_Ma_min 2 := ⟨mk_Ma_min, gd_in (in_t4 (List.mem_of_getElem? (i := 13) rfl)) rfl⟩
theorem mk_SL_indexOfChar : Mok Y_SL_indexOfChar 4 := ⟨gd_in (in_t4 (List.mem_of_getElem? (i := 17) rfl)) rfl, gd_in (in_t1 (List.mem_of_getElem? (i := 17) rfl)) rfl, by decide, by decide, by decide +kernel⟩
theorem ms_SL_indexOfChar : MokS Y_SL_indexOfChar 4 := ⟨mk_SL_indexOfChar, gd_in (in_t4 (List.mem_of_getElem? (i := 16) rfl)) rfl⟩
theorem mk_Str_checkBoundsBeginEnd : Mok Y_Str_checkBoundsBeginEnd 3 := ⟨gd_in (in_t4 (List.mem_of_getElem? (i := 32) rfl)) rfl, gd_in (in_t1 (List.mem_of_getElem? (i := 16) rfl)) rfl, by decide, by decide, by decide +kernel⟩
theorem ms_Str_checkBoundsBeginEnd : MokS Y_Str_checkBoundsBeginEnd 3 := ⟨mk_Str_checkBoundsBeginEnd, gd_in (in_t4 (List.mem_of_getElem? (i := 31) rfl)) rfl⟩
theorem mk_Pre_checkFromToIndex : Mok Y_Pre_checkFromToIndex 4 := ⟨gd_in (in_t4 (List.mem_of_getElem? (i := 35) rfl)) rfl, gd_in (in_t1 (List.mem_of_getElem? (i := 18) rfl)) rfl, by decide, by decide, by decide +kernel⟩
theorem ms_Pre_checkFromToIndex : MokS Y_Pre_checkFromToIndex 4 := ⟨mk_Pre_checkFromToIndex, gd_in (in_t4 (List.mem_of_getElem? (i := 34) rfl)) rfl⟩
theorem mk_Rd_take : Mok Y_Rd_take 0 := ⟨gd_in (in_t4 (List.mem_of_getElem? (i := 56) rfl)) rfl, gd_in (in_t1 (List.mem_of_getElem? (i := 7) rfl)) rfl, by decide, by decide, by decide +kernel⟩
theorem mv_Rd_take : MokV Y_Rd_take 0 := ⟨mk_Rd_take, gd_in (in_t4 (List.mem_of_getElem? (i := 55) rfl)) rfl, gd_in (List.mem_append_left _ (List.mem_map.mpr ⟨_, List.mem_append_left _ (List.mem_of_getElem? (i := 9) rfl), rfl⟩)) rfl⟩
theorem mk_Rd_takeLine : Mok Y_Rd_takeLine 0 := ⟨gd_in (in_t4 (List.mem_of_getElem? (i := 60) rfl)) rfl, gd_in (in_t1 (List.mem_of_getElem? (i := 7) rfl)) rfl, by decide, by decide, by decide +kernel⟩
theorem mv_Rd_takeLine : MokV Y_Rd_takeLine 0 := ⟨mk_Rd_takeLine, gd_in (in_t4 (List.mem_of_getElem? (i := 59) rfl)) rfl, gd_in (List.mem_append_left _ (List.mem_map.mpr ⟨_, List.mem_append_left _ (List.mem_of_getElem? (i := 10) rfl), rfl⟩)) rfl⟩
theorem mk_Rd_takeKind : Mok Y_Rd_takeKind 0 := ⟨gd_in (in_t4 (List.mem_of_getElem? (i := 64) rfl)) rfl, gd_in (in_t1 (List.mem_of_getElem? (i := 7) rfl)) rfl, by decide, by decide, by decide +kernel⟩
theorem mv_Rd_takeKind : MokV Y_Rd_takeKind 0 := ⟨mk_Rd_takeKind, gd_in (in_t4 (List.mem_of_getElem? (i := 63) rfl)) rfl, gd_in (List.mem_append_left _ (List.mem_map.mpr ⟨_, List.mem_append_left _ (List.mem_of_getElem? (i := 11) rfl), rfl⟩)) rfl⟩
theorem mk_Rd_takeWhen : Mok Y_Rd_takeWhen 0 := ⟨gd_in (in_t4 (List.mem_of_getElem? (i := 68) rfl)) rfl, gd_in (in_t1 (List.mem_of_getElem? (i := 7) rfl)) rfl, by decide, by decide, by decide +kernel⟩
theorem mv_Rd_takeWhen : MokV Y_Rd_takeWhen 0 := ⟨mk_Rd_takeWhen, gd_in (in_t4 (List.mem_of_getElem? (i := 67) rfl)) rfl, gd_in (List.mem_append_left _ (List.mem_map.mpr ⟨_, List.mem_append_left _ (List.mem_of_getElem? (i := 12) rfl), rfl⟩)) rfl⟩
theorem mk_Rd_takeClaim : Mok Y_Rd_takeClaim 0 := ⟨gd_in (in_t4 (List.mem_of_getElem? (i := 72) rfl)) rfl, gd_in (in_t1 (List.mem_of_getElem? (i := 7) rfl)) rfl, by decide, by decide, by decide +kernel⟩
theorem mv_Rd_takeClaim : MokV Y_Rd_takeClaim 0 := ⟨mk_Rd_takeClaim, gd_in (in_t4 (List.mem_of_getElem? (i := 71) rfl)) rfl, gd_in (List.mem_append_left _ (List.mem_map.mpr ⟨_, List.mem_append_left _ (List.mem_of_getElem? (i := 13) rfl), rfl⟩)) rfl⟩
theorem mk_Rd_takeUnit : Mok Y_Rd_takeUnit 0 := ⟨gd_in (in_t4 (List.mem_of_getElem? (i := 76) rfl)) rfl, gd_in (in_t1 (List.mem_of_getElem? (i := 7) rfl)) rfl, by decide, by decide, by decide +kernel⟩
theorem mv_Rd_takeUnit : MokV Y_Rd_takeUnit 0 := ⟨mk_Rd_takeUnit, gd_in (in_t4 (List.mem_of_getElem? (i := 75) rfl)) rfl, gd_in (List.mem_append_left _ (List.mem_map.mpr ⟨_, List.mem_append_left _ (List.mem_of_getElem? (i := 14) rfl), rfl⟩)) rfl⟩
theorem mk_Rd_emit : Mok Y_Rd_emit 2 := ⟨gd_in (in_t4 (List.mem_of_getElem? (i := 80) rfl)) rfl, gd_in (in_t1 (List.mem_of_getElem? (i := 7) rfl)) rfl, by decide, by decide, by decide +kernel⟩
theorem mv_Rd_emit : MokV Y_Rd_emit 2 := ⟨mk_Rd_emit, gd_in (in_t4 (List.mem_of_getElem? (i := 79) rfl)) rfl, gd_in (List.mem_append_left _ (List.mem_map.mpr ⟨_, List.mem_append_left _ (List.mem_of_getElem? (i := 15) rfl), rfl⟩)) rfl⟩
theorem mk_Rd_hold : Mok Y_Rd_hold 1 := ⟨gd_in (in_t4 (List.mem_of_getElem? (i := 84) rfl)) rfl, gd_in (in_t1 (List.mem_of_getElem? (i := 7) rfl)) rfl, by decide, by decide, by decide +kernel⟩
theorem mv_Rd_hold : MokV Y_Rd_hold 1 := ⟨mk_Rd_hold, gd_in (in_t4 (List.mem_of_getElem? (i := 83) rfl)) rfl, gd_in (List.mem_append_left _ (List.mem_map.mpr ⟨_, List.mem_append_right _ (List.mem_append_left _ (List.mem_of_getElem? (i := 0) rfl)), rfl⟩)) rfl⟩
theorem mk_Rd_takePart : Mok Y_Rd_takePart 0 := ⟨gd_in (in_t4 (List.mem_of_getElem? (i := 88) rfl)) rfl, gd_in (in_t1 (List.mem_of_getElem? (i := 7) rfl)) rfl, by decide, by decide, by decide +kernel⟩
theorem mv_Rd_takePart : MokV Y_Rd_takePart 0 := ⟨mk_Rd_takePart, gd_in (in_t4 (List.mem_of_getElem? (i := 87) rfl)) rfl, gd_in (List.mem_append_left _ (List.mem_map.mpr ⟨_, List.mem_append_right _ (List.mem_append_left _ (List.mem_of_getElem? (i := 1) rfl)), rfl⟩)) rfl⟩
theorem mk_Rd_takeSign : Mok Y_Rd_takeSign 0 := ⟨gd_in (in_t4 (List.mem_of_getElem? (i := 92) rfl)) rfl, gd_in (in_t1 (List.mem_of_getElem? (i := 7) rfl)) rfl, by decide, by decide, by decide +kernel⟩
theorem mv_Rd_takeSign : MokV Y_Rd_takeSign 0 := ⟨mk_Rd_takeSign, gd_in (in_t4 (List.mem_of_getElem? (i := 91) rfl)) rfl, gd_in (List.mem_append_left _ (List.mem_map.mpr ⟨_, List.mem_append_right _ (List.mem_append_left _ (List.mem_of_getElem? (i := 2) rfl)), rfl⟩)) rfl⟩
theorem mk_Rd_rank : Mok Y_Rd_rank 1 := ⟨gd_in (in_t4 (List.mem_of_getElem? (i := 95) rfl)) rfl, gd_in (in_t1 (List.mem_of_getElem? (i := 7) rfl)) rfl, by decide, by decide, by decide +kernel⟩
theorem ms_Rd_rank : MokS Y_Rd_rank 1 := ⟨mk_Rd_rank, gd_in (in_t4 (List.mem_of_getElem? (i := 94) rfl)) rfl⟩
theorem mk_Rd_release : Mok Y_Rd_release 1 := ⟨gd_in (in_t4 (List.mem_of_getElem? (i := 99) rfl)) rfl, gd_in (in_t1 (List.mem_of_getElem? (i := 7) rfl)) rfl, by decide, by decide, by decide +kernel⟩
theorem mv_Rd_release : MokV Y_Rd_release 1 := ⟨mk_Rd_release, gd_in (in_t4 (List.mem_of_getElem? (i := 98) rfl)) rfl, gd_in (List.mem_append_left _ (List.mem_map.mpr ⟨_, List.mem_append_right _ (List.mem_append_left _ (List.mem_of_getElem? (i := 3) rfl)), rfl⟩)) rfl⟩
theorem mk_Rd_takeJoint : Mok Y_Rd_takeJoint 0 := ⟨gd_in (in_t4 (List.mem_of_getElem? (i := 103) rfl)) rfl, gd_in (in_t1 (List.mem_of_getElem? (i := 7) rfl)) rfl, by decide, by decide, by decide +kernel⟩
theorem mv_Rd_takeJoint : MokV Y_Rd_takeJoint 0 := ⟨mk_Rd_takeJoint, gd_in (in_t4 (List.mem_of_getElem? (i := 102) rfl)) rfl, gd_in (List.mem_append_left _ (List.mem_map.mpr ⟨_, List.mem_append_right _ (List.mem_append_left _ (List.mem_of_getElem? (i := 4) rfl)), rfl⟩)) rfl⟩
theorem mk_Rd_dropBracket : Mok Y_Rd_dropBracket 0 := ⟨gd_in (in_t4 (List.mem_of_getElem? (i := 107) rfl)) rfl, gd_in (in_t1 (List.mem_of_getElem? (i := 7) rfl)) rfl, by decide, by decide, by decide +kernel⟩
theorem mv_Rd_dropBracket : MokV Y_Rd_dropBracket 0 := ⟨mk_Rd_dropBracket, gd_in (in_t4 (List.mem_of_getElem? (i := 106) rfl)) rfl, gd_in (List.mem_append_left _ (List.mem_map.mpr ⟨_, List.mem_append_right _ (List.mem_append_left _ (List.mem_of_getElem? (i := 5) rfl)), rfl⟩)) rfl⟩
theorem mk_Ar_copyOf : Mok Y_Ar_copyOf 2 := ⟨gd_in (in_t4 (List.mem_of_getElem? (i := 110) rfl)) rfl, gd_in (in_t1 (List.mem_of_getElem? (i := 5) rfl)) rfl, by decide, by decide, by decide +kernel⟩
theorem ms_Ar_copyOf : MokS Y_Ar_copyOf 2 := ⟨mk_Ar_copyOf, gd_in (in_t4 (List.mem_of_getElem? (i := 109) rfl)) rfl⟩
theorem mk_B_fault : Mok Y_B_fault 1 := ⟨gd_in (in_t4 (List.mem_of_getElem? (i := 125) rfl)) rfl, gd_in (in_t1 (List.mem_of_getElem? (i := 1) rfl)) rfl, by decide, by decide, by decide +kernel⟩
theorem mv_B_fault : MokV Y_B_fault 1 := ⟨mk_B_fault, gd_in (in_t4 (List.mem_of_getElem? (i := 123) rfl)) rfl, gd_in (in_t4 (List.mem_of_getElem? (i := 124) rfl)) rfl⟩
theorem mk_B_hearer : Mok Y_B_hearer 2 := ⟨gd_in (in_t4 (List.mem_of_getElem? (i := 129) rfl)) rfl, gd_in (in_t1 (List.mem_of_getElem? (i := 1) rfl)) rfl, by decide, by decide, by decide +kernel⟩
theorem mv_B_hearer : MokV Y_B_hearer 2 := ⟨mk_B_hearer, gd_in (in_t4 (List.mem_of_getElem? (i := 127) rfl)) rfl, gd_in (in_t4 (List.mem_of_getElem? (i := 128) rfl)) rfl⟩
theorem mk_B_turning : Mok Y_B_turning 3 := ⟨gd_in (in_t4 (List.mem_of_getElem? (i := 133) rfl)) rfl, gd_in (in_t1 (List.mem_of_getElem? (i := 1) rfl)) rfl, by decide, by decide, by decide +kernel⟩
theorem mv_B_turning : MokV Y_B_turning 3 := ⟨mk_B_turning, gd_in (in_t4 (List.mem_of_getElem? (i := 131) rfl)) rfl, gd_in (in_t4 (List.mem_of_getElem? (i := 132) rfl)) rfl⟩
theorem mk_Cw_attend : Mok Y_Cw_attend 2 := ⟨gd_in (in_t4 (List.mem_of_getElem? (i := 137) rfl)) rfl, gd_in (in_t1 (List.mem_of_getElem? (i := 8) rfl)) rfl, by decide, by decide, by decide +kernel⟩
theorem mv_Cw_attend : MokV Y_Cw_attend 2 := ⟨mk_Cw_attend, gd_in (in_t4 (List.mem_of_getElem? (i := 135) rfl)) rfl, gd_in (in_t4 (List.mem_of_getElem? (i := 136) rfl)) rfl⟩
theorem mk_Cw_sectorBy : Mok Y_Cw_sectorBy 1 := ⟨gd_in (in_t4 (List.mem_of_getElem? (i := 144) rfl)) rfl, gd_in (in_t1 (List.mem_of_getElem? (i := 8) rfl)) rfl, by decide, by decide, by decide +kernel⟩
theorem mv_Cw_sectorBy : MokV Y_Cw_sectorBy 1 := ⟨mk_Cw_sectorBy, gd_in (in_t4 (List.mem_of_getElem? (i := 142) rfl)) rfl, gd_in (in_t4 (List.mem_of_getElem? (i := 143) rfl)) rfl⟩
theorem mk_Sc_decide : Mok Y_Sc_decide 1 := ⟨gd_in (in_t4 (List.mem_of_getElem? (i := 148) rfl)) rfl, gd_in (in_t1 (List.mem_of_getElem? (i := 9) rfl)) rfl, by decide, by decide, by decide +kernel⟩
theorem mv_Sc_decide : MokV Y_Sc_decide 1 := ⟨mk_Sc_decide, gd_in (in_t4 (List.mem_of_getElem? (i := 146) rfl)) rfl, gd_in (in_t4 (List.mem_of_getElem? (i := 147) rfl)) rfl⟩
theorem mk_Sc_pop : Mok Y_Sc_pop 0 := ⟨gd_in (in_t4 (List.mem_of_getElem? (i := 153) rfl)) rfl, gd_in (in_t1 (List.mem_of_getElem? (i := 9) rfl)) rfl, by decide, by decide, by decide +kernel⟩
theorem mv_Sc_pop : MokV Y_Sc_pop 0 := ⟨mk_Sc_pop, gd_in (in_t4 (List.mem_of_getElem? (i := 152) rfl)) rfl, gd_in (List.mem_append_left _ (List.mem_map.mpr ⟨_, List.mem_append_right _ (List.mem_append_left _ (List.mem_of_getElem? (i := 6) rfl)), rfl⟩)) rfl⟩
theorem mk_Sc_push : Mok Y_Sc_push 1 := ⟨gd_in (in_t4 (List.mem_of_getElem? (i := 157) rfl)) rfl, gd_in (in_t1 (List.mem_of_getElem? (i := 9) rfl)) rfl, by decide, by decide, by decide +kernel⟩
theorem mv_Sc_push : MokV Y_Sc_push 1 := ⟨mk_Sc_push, gd_in (in_t4 (List.mem_of_getElem? (i := 156) rfl)) rfl, gd_in (List.mem_append_left _ (List.mem_map.mpr ⟨_, List.mem_append_right _ (List.mem_append_left _ (List.mem_of_getElem? (i := 7) rfl)), rfl⟩)) rfl⟩
theorem mk_Sc_join : Mok Y_Sc_join 3 := ⟨gd_in (in_t4 (List.mem_of_getElem? (i := 160) rfl)) rfl, gd_in (in_t1 (List.mem_of_getElem? (i := 9) rfl)) rfl, by decide, by decide, by decide +kernel⟩
theorem ms_Sc_join : MokS Y_Sc_join 3 := ⟨mk_Sc_join, gd_in (in_t4 (List.mem_of_getElem? (i := 159) rfl)) rfl⟩
theorem mk_B_story : Mok Y_B_story 2 := ⟨gd_in (in_t4 (List.mem_of_getElem? (i := 164) rfl)) rfl, gd_in (in_t1 (List.mem_of_getElem? (i := 1) rfl)) rfl, by decide, by decide, by decide +kernel⟩
theorem mv_B_story : MokV Y_B_story 2 := ⟨mk_B_story, gd_in (in_t4 (List.mem_of_getElem? (i := 162) rfl)) rfl, gd_in (in_t4 (List.mem_of_getElem? (i := 163) rfl)) rfl⟩
theorem mk_B_stories : Mok Y_B_stories 2 := ⟨gd_in (in_t4 (List.mem_of_getElem? (i := 168) rfl)) rfl, gd_in (in_t1 (List.mem_of_getElem? (i := 1) rfl)) rfl, by decide, by decide, by decide +kernel⟩
theorem mv_B_stories : MokV Y_B_stories 2 := ⟨mk_B_stories, gd_in (in_t4 (List.mem_of_getElem? (i := 166) rfl)) rfl, gd_in (in_t4 (List.mem_of_getElem? (i := 167) rfl)) rfl⟩
theorem mk_Cw_countFitting : Mok Y_Cw_countFitting 3 := ⟨gd_in (in_t4 (List.mem_of_getElem? (i := 172) rfl)) rfl, gd_in (in_t1 (List.mem_of_getElem? (i := 8) rfl)) rfl, by decide, by decide, by decide +kernel⟩
theorem mv_Cw_countFitting : MokV Y_Cw_countFitting 3 := ⟨mk_Cw_countFitting, gd_in (in_t4 (List.mem_of_getElem? (i := 170) rfl)) rfl, gd_in (in_t4 (List.mem_of_getElem? (i := 171) rfl)) rfl⟩
theorem mk_B_ear : Mok Y_B_ear 1 := ⟨gd_in (in_t4 (List.mem_of_getElem? (i := 178) rfl)) rfl, gd_in (in_t1 (List.mem_of_getElem? (i := 1) rfl)) rfl, by decide, by decide, by decide +kernel⟩
theorem mv_B_ear : MokV Y_B_ear 1 := ⟨mk_B_ear, gd_in (in_t4 (List.mem_of_getElem? (i := 176) rfl)) rfl, gd_in (in_t4 (List.mem_of_getElem? (i := 177) rfl)) rfl⟩
theorem mk_Sp_add : Mok Y_Sp_add 3 := ⟨gd_in (in_t4 (List.mem_of_getElem? (i := 182) rfl)) rfl, gd_in (in_t1 (List.mem_of_getElem? (i := 10) rfl)) rfl, by decide, by decide, by decide +kernel⟩
theorem mv_Sp_add : MokV Y_Sp_add 3 := ⟨mk_Sp_add, gd_in (in_t4 (List.mem_of_getElem? (i := 180) rfl)) rfl, gd_in (in_t4 (List.mem_of_getElem? (i := 181) rfl)) rfl⟩
theorem mk_B_got : Mok Y_B_got 3 := ⟨gd_in (in_t4 (List.mem_of_getElem? (i := 186) rfl)) rfl, gd_in (in_t1 (List.mem_of_getElem? (i := 1) rfl)) rfl, by decide, by decide, by decide +kernel⟩
theorem mv_B_got : MokV Y_B_got 3 := ⟨mk_B_got, gd_in (in_t4 (List.mem_of_getElem? (i := 184) rfl)) rfl, gd_in (in_t4 (List.mem_of_getElem? (i := 185) rfl)) rfl⟩
theorem mk_B_from : Mok Y_B_from 1 := ⟨gd_in (in_t4 (List.mem_of_getElem? (i := 191) rfl)) rfl, gd_in (in_t1 (List.mem_of_getElem? (i := 1) rfl)) rfl, by decide, by decide, by decide +kernel⟩
theorem mv_B_from : MokV Y_B_from 1 := ⟨mk_B_from, gd_in (in_t4 (List.mem_of_getElem? (i := 189) rfl)) rfl, gd_in (in_t4 (List.mem_of_getElem? (i := 190) rfl)) rfl⟩
theorem mk_B_mayBeFrom : Mok Y_B_mayBeFrom 1 := ⟨gd_in (in_t4 (List.mem_of_getElem? (i := 195) rfl)) rfl, gd_in (in_t1 (List.mem_of_getElem? (i := 1) rfl)) rfl, by decide, by decide, by decide +kernel⟩
theorem mv_B_mayBeFrom : MokV Y_B_mayBeFrom 1 := ⟨mk_B_mayBeFrom, gd_in (in_t4 (List.mem_of_getElem? (i := 194) rfl)) rfl, gd_in (List.mem_append_left _ (List.mem_map.mpr ⟨_, List.mem_append_right _ (List.mem_append_left _ (List.mem_of_getElem? (i := 8) rfl)), rfl⟩)) rfl⟩
theorem mk_Sp_agreeWithout : Mok Y_Sp_agreeWithout 1 := ⟨gd_in (in_t4 (List.mem_of_getElem? (i := 199) rfl)) rfl, gd_in (in_t1 (List.mem_of_getElem? (i := 10) rfl)) rfl, by decide, by decide, by decide +kernel⟩
theorem mv_Sp_agreeWithout : MokV Y_Sp_agreeWithout 1 := ⟨mk_Sp_agreeWithout, gd_in (in_t4 (List.mem_of_getElem? (i := 197) rfl)) rfl, gd_in (in_t4 (List.mem_of_getElem? (i := 198) rfl)) rfl⟩
theorem mk_B_click : Mok Y_B_click 2 := ⟨gd_in (in_t4 (List.mem_of_getElem? (i := 206) rfl)) rfl, gd_in (in_t1 (List.mem_of_getElem? (i := 1) rfl)) rfl, by decide, by decide, by decide +kernel⟩
theorem mv_B_click : MokV Y_B_click 2 := ⟨mk_B_click, gd_in (in_t4 (List.mem_of_getElem? (i := 204) rfl)) rfl, gd_in (in_t4 (List.mem_of_getElem? (i := 205) rfl)) rfl⟩
theorem mk_Tp_addClick : Mok Y_Tp_addClick 1 := ⟨gd_in (in_t4 (List.mem_of_getElem? (i := 210) rfl)) rfl, gd_in (in_t1 (List.mem_of_getElem? (i := 12) rfl)) rfl, by decide, by decide, by decide +kernel⟩
theorem mv_Tp_addClick : MokV Y_Tp_addClick 1 := ⟨mk_Tp_addClick, gd_in (in_t4 (List.mem_of_getElem? (i := 208) rfl)) rfl, gd_in (in_t4 (List.mem_of_getElem? (i := 209) rfl)) rfl⟩
theorem mk_B_fits : Mok Y_B_fits 4 := ⟨gd_in (in_t4 (List.mem_of_getElem? (i := 214) rfl)) rfl, gd_in (in_t1 (List.mem_of_getElem? (i := 1) rfl)) rfl, by decide, by decide, by decide +kernel⟩
theorem mv_B_fits : MokV Y_B_fits 4 := ⟨mk_B_fits, gd_in (in_t4 (List.mem_of_getElem? (i := 212) rfl)) rfl, gd_in (in_t4 (List.mem_of_getElem? (i := 213) rfl)) rfl⟩
theorem mk_B_canLay : Mok Y_B_canLay 3 := ⟨gd_in (in_t4 (List.mem_of_getElem? (i := 218) rfl)) rfl, gd_in (in_t1 (List.mem_of_getElem? (i := 1) rfl)) rfl, by decide, by decide, by decide +kernel⟩
theorem mv_B_canLay : MokV Y_B_canLay 3 := ⟨mk_B_canLay, gd_in (in_t4 (List.mem_of_getElem? (i := 217) rfl)) rfl, gd_in (List.mem_append_left _ (List.mem_map.mpr ⟨_, List.mem_append_right _ (List.mem_append_left _ (List.mem_of_getElem? (i := 9) rfl)), rfl⟩)) rfl⟩
theorem mk_B_isTold : Mok Y_B_isTold 1 := ⟨gd_in (in_t4 (List.mem_of_getElem? (i := 222) rfl)) rfl, gd_in (in_t1 (List.mem_of_getElem? (i := 1) rfl)) rfl, by decide, by decide, by decide +kernel⟩
theorem mv_B_isTold : MokV Y_B_isTold 1 := ⟨mk_B_isTold, gd_in (in_t4 (List.mem_of_getElem? (i := 221) rfl)) rfl, gd_in (List.mem_append_left _ (List.mem_map.mpr ⟨_, List.mem_append_right _ (List.mem_append_left _ (List.mem_of_getElem? (i := 10) rfl)), rfl⟩)) rfl⟩
theorem mk_Tp_lay : Mok Y_Tp_lay 3 := ⟨gd_in (in_t4 (List.mem_of_getElem? (i := 226) rfl)) rfl, gd_in (in_t1 (List.mem_of_getElem? (i := 12) rfl)) rfl, by decide, by decide, by decide +kernel⟩
theorem mv_Tp_lay : MokV Y_Tp_lay 3 := ⟨mk_Tp_lay, gd_in (in_t4 (List.mem_of_getElem? (i := 224) rfl)) rfl, gd_in (in_t4 (List.mem_of_getElem? (i := 225) rfl)) rfl⟩
theorem mk_Tp_backPlace : Mok Y_Tp_backPlace 1 := ⟨gd_in (in_t4 (List.mem_of_getElem? (i := 232) rfl)) rfl, gd_in (in_t1 (List.mem_of_getElem? (i := 12) rfl)) rfl, by decide, by decide, by decide +kernel⟩
theorem mv_Tp_backPlace : MokV Y_Tp_backPlace 1 := ⟨mk_Tp_backPlace, gd_in (in_t4 (List.mem_of_getElem? (i := 231) rfl)) rfl, gd_in (List.mem_append_left _ (List.mem_map.mpr ⟨_, List.mem_append_right _ (List.mem_append_left _ (List.mem_of_getElem? (i := 11) rfl)), rfl⟩)) rfl⟩
theorem mk_Tp_clicksNear : Mok Y_Tp_clicksNear 2 := ⟨gd_in (in_t4 (List.mem_of_getElem? (i := 236) rfl)) rfl, gd_in (in_t1 (List.mem_of_getElem? (i := 12) rfl)) rfl, by decide, by decide, by decide +kernel⟩
theorem mv_Tp_clicksNear : MokV Y_Tp_clicksNear 2 := ⟨mk_Tp_clicksNear, gd_in (in_t4 (List.mem_of_getElem? (i := 235) rfl)) rfl, gd_in (List.mem_append_left _ (List.mem_map.mpr ⟨_, List.mem_append_right _ (List.mem_append_left _ (List.mem_of_getElem? (i := 12) rfl)), rfl⟩)) rfl⟩
theorem mk_B_couple : Mok Y_B_couple 2 := ⟨gd_in (in_t5 (List.mem_of_getElem? (i := 1) rfl)) rfl, gd_in (in_t1 (List.mem_of_getElem? (i := 1) rfl)) rfl, by decide, by decide, by decide +kernel⟩
theorem mv_B_couple : MokV Y_B_couple 2 := ⟨mk_B_couple, gd_in (in_t4 (List.mem_of_getElem? (i := 239) rfl)) rfl, gd_in (in_t5 (List.mem_of_getElem? (i := 0) rfl)) rfl⟩
theorem mk_Tp_searchCouple : Mok Y_Tp_searchCouple 1 := ⟨gd_in (in_t5 (List.mem_of_getElem? (i := 5) rfl)) rfl, gd_in (in_t1 (List.mem_of_getElem? (i := 12) rfl)) rfl, by decide, by decide, by decide +kernel⟩
theorem mv_Tp_searchCouple : MokV Y_Tp_searchCouple 1 := ⟨mk_Tp_searchCouple, gd_in (in_t5 (List.mem_of_getElem? (i := 3) rfl)) rfl, gd_in (in_t5 (List.mem_of_getElem? (i := 4) rfl)) rfl⟩
theorem mk_B_must : Mok Y_B_must 3 := ⟨gd_in (in_t5 (List.mem_of_getElem? (i := 10) rfl)) rfl, gd_in (in_t1 (List.mem_of_getElem? (i := 1) rfl)) rfl, by decide, by decide, by decide +kernel⟩
theorem mv_B_must : MokV Y_B_must 3 := ⟨mk_B_must, gd_in (in_t5 (List.mem_of_getElem? (i := 8) rfl)) rfl, gd_in (in_t5 (List.mem_of_getElem? (i := 9) rfl)) rfl⟩
theorem mk_Tp_fewestWalls : Mok Y_Tp_fewestWalls 4 := ⟨gd_in (in_t5 (List.mem_of_getElem? (i := 14) rfl)) rfl, gd_in (in_t1 (List.mem_of_getElem? (i := 12) rfl)) rfl, by decide, by decide, by decide +kernel⟩
theorem mv_Tp_fewestWalls : MokV Y_Tp_fewestWalls 4 := ⟨mk_Tp_fewestWalls, gd_in (in_t5 (List.mem_of_getElem? (i := 12) rfl)) rfl, gd_in (in_t5 (List.mem_of_getElem? (i := 13) rfl)) rfl⟩
theorem mk_B_unionOf : Mok Y_B_unionOf 2 := ⟨gd_in (in_t5 (List.mem_of_getElem? (i := 17) rfl)) rfl, gd_in (in_t1 (List.mem_of_getElem? (i := 1) rfl)) rfl, by decide, by decide, by decide +kernel⟩
theorem ms_B_unionOf : MokS Y_B_unionOf 2 := ⟨mk_B_unionOf, gd_in (in_t5 (List.mem_of_getElem? (i := 16) rfl)) rfl⟩
theorem mk_B_isFewer : Mok Y_B_isFewer 2 := ⟨gd_in (in_t5 (List.mem_of_getElem? (i := 20) rfl)) rfl, gd_in (in_t1 (List.mem_of_getElem? (i := 1) rfl)) rfl, by decide, by decide, by decide +kernel⟩
theorem ms_B_isFewer : MokS Y_B_isFewer 2 := ⟨mk_B_isFewer, gd_in (in_t5 (List.mem_of_getElem? (i := 19) rfl)) rfl⟩
theorem mk_Ig_bitCount : Mok Y_Ig_bitCount 1 := ⟨gd_in (in_t5 (List.mem_of_getElem? (i := 23) rfl)) rfl, gd_in (in_t1 (List.mem_of_getElem? (i := 22) rfl)) rfl, by decide, by decide, by decide +kernel⟩
theorem ms_Ig_bitCount : MokS Y_Ig_bitCount 1 := ⟨mk_Ig_bitCount, gd_in (in_t5 (List.mem_of_getElem? (i := 22) rfl)) rfl⟩
theorem mk_B_voice : Mok Y_B_voice 4 := ⟨gd_in (in_t5 (List.mem_of_getElem? (i := 30) rfl)) rfl, gd_in (in_t1 (List.mem_of_getElem? (i := 1) rfl)) rfl, by decide, by decide, by decide +kernel⟩
theorem mv_B_voice : MokV Y_B_voice 4 := ⟨mk_B_voice, gd_in (in_t5 (List.mem_of_getElem? (i := 28) rfl)) rfl, gd_in (in_t5 (List.mem_of_getElem? (i := 29) rfl)) rfl⟩
theorem mk_B_over : Mok Y_B_over 2 := ⟨gd_in (in_t5 (List.mem_of_getElem? (i := 35) rfl)) rfl, gd_in (in_t1 (List.mem_of_getElem? (i := 1) rfl)) rfl, by decide, by decide, by decide +kernel⟩
theorem mv_B_over : MokV Y_B_over 2 := ⟨mk_B_over, gd_in (in_t5 (List.mem_of_getElem? (i := 33) rfl)) rfl, gd_in (in_t5 (List.mem_of_getElem? (i := 34) rfl)) rfl⟩
theorem mk_Sp_overAlone : Mok Y_Sp_overAlone 0 := ⟨gd_in (in_t5 (List.mem_of_getElem? (i := 39) rfl)) rfl, gd_in (in_t1 (List.mem_of_getElem? (i := 10) rfl)) rfl, by decide, by decide, by decide +kernel⟩
theorem mv_Sp_overAlone : MokV Y_Sp_overAlone 0 := ⟨mk_Sp_overAlone, gd_in (in_t5 (List.mem_of_getElem? (i := 37) rfl)) rfl, gd_in (in_t5 (List.mem_of_getElem? (i := 38) rfl)) rfl⟩
theorem mk_B_noise : Mok Y_B_noise 4 := ⟨gd_in (in_t5 (List.mem_of_getElem? (i := 44) rfl)) rfl, gd_in (in_t1 (List.mem_of_getElem? (i := 1) rfl)) rfl, by decide, by decide, by decide +kernel⟩
theorem mv_B_noise : MokV Y_B_noise 4 := ⟨mk_B_noise, gd_in (in_t5 (List.mem_of_getElem? (i := 42) rfl)) rfl, gd_in (in_t5 (List.mem_of_getElem? (i := 43) rfl)) rfl⟩
theorem mk_Ns_add : Mok Y_Ns_add 4 := ⟨gd_in (in_t5 (List.mem_of_getElem? (i := 48) rfl)) rfl, gd_in (in_t1 (List.mem_of_getElem? (i := 13) rfl)) rfl, by decide, by decide, by decide +kernel⟩
theorem mv_Ns_add : MokV Y_Ns_add 4 := ⟨mk_Ns_add, gd_in (in_t5 (List.mem_of_getElem? (i := 46) rfl)) rfl, gd_in (in_t5 (List.mem_of_getElem? (i := 47) rfl)) rfl⟩
theorem mk_B_noises : Mok Y_B_noises 1 := ⟨gd_in (in_t5 (List.mem_of_getElem? (i := 52) rfl)) rfl, gd_in (in_t1 (List.mem_of_getElem? (i := 1) rfl)) rfl, by decide, by decide, by decide +kernel⟩
theorem mv_B_noises : MokV Y_B_noises 1 := ⟨mk_B_noises, gd_in (in_t5 (List.mem_of_getElem? (i := 50) rfl)) rfl, gd_in (in_t5 (List.mem_of_getElem? (i := 51) rfl)) rfl⟩
theorem mk_Ns_countSentWrongly : Mok Y_Ns_countSentWrongly 0 := ⟨gd_in (in_t5 (List.mem_of_getElem? (i := 56) rfl)) rfl, gd_in (in_t1 (List.mem_of_getElem? (i := 13) rfl)) rfl, by decide, by decide, by decide +kernel⟩
theorem mv_Ns_countSentWrongly : MokV Y_Ns_countSentWrongly 0 := ⟨mk_Ns_countSentWrongly, gd_in (in_t5 (List.mem_of_getElem? (i := 54) rfl)) rfl, gd_in (in_t5 (List.mem_of_getElem? (i := 55) rfl)) rfl⟩
theorem mk_Ns_sort : Mok Y_Ns_sort 1 := ⟨gd_in (in_t5 (List.mem_of_getElem? (i := 60) rfl)) rfl, gd_in (in_t1 (List.mem_of_getElem? (i := 13) rfl)) rfl, by decide, by decide, by decide +kernel⟩
theorem mv_Ns_sort : MokV Y_Ns_sort 1 := ⟨mk_Ns_sort, gd_in (in_t5 (List.mem_of_getElem? (i := 58) rfl)) rfl, gd_in (in_t5 (List.mem_of_getElem? (i := 59) rfl)) rfl⟩
theorem mk_Ns_isAhead : Mok Y_Ns_isAhead 2 := ⟨gd_in (in_t5 (List.mem_of_getElem? (i := 65) rfl)) rfl, gd_in (in_t1 (List.mem_of_getElem? (i := 13) rfl)) rfl, by decide, by decide, by decide +kernel⟩
theorem mv_Ns_isAhead : MokV Y_Ns_isAhead 2 := ⟨mk_Ns_isAhead, gd_in (in_t5 (List.mem_of_getElem? (i := 64) rfl)) rfl, gd_in (List.mem_append_left _ (List.mem_map.mpr ⟨_, List.mem_append_right _ (List.mem_append_left _ (List.mem_of_getElem? (i := 13) rfl)), rfl⟩)) rfl⟩
theorem mk_Ns_countMissed : Mok Y_Ns_countMissed 0 := ⟨gd_in (in_t5 (List.mem_of_getElem? (i := 71) rfl)) rfl, gd_in (in_t1 (List.mem_of_getElem? (i := 13) rfl)) rfl, by decide, by decide, by decide +kernel⟩
theorem mv_Ns_countMissed : MokV Y_Ns_countMissed 0 := ⟨mk_Ns_countMissed, gd_in (in_t5 (List.mem_of_getElem? (i := 69) rfl)) rfl, gd_in (in_t5 (List.mem_of_getElem? (i := 70) rfl)) rfl⟩
theorem mk_B_ball : Mok Y_B_ball 2 := ⟨gd_in (in_t5 (List.mem_of_getElem? (i := 76) rfl)) rfl, gd_in (in_t1 (List.mem_of_getElem? (i := 1) rfl)) rfl, by decide, by decide, by decide +kernel⟩
theorem mv_B_ball : MokV Y_B_ball 2 := ⟨mk_B_ball, gd_in (in_t5 (List.mem_of_getElem? (i := 74) rfl)) rfl, gd_in (in_t5 (List.mem_of_getElem? (i := 75) rfl)) rfl⟩
theorem mk_B_trials : Mok Y_B_trials 1 := ⟨gd_in (in_t5 (List.mem_of_getElem? (i := 80) rfl)) rfl, gd_in (in_t1 (List.mem_of_getElem? (i := 1) rfl)) rfl, by decide, by decide, by decide +kernel⟩
theorem mv_B_trials : MokV Y_B_trials 1 := ⟨mk_B_trials, gd_in (in_t5 (List.mem_of_getElem? (i := 78) rfl)) rfl, gd_in (in_t5 (List.mem_of_getElem? (i := 79) rfl)) rfl⟩
theorem mk_B_toldSpots : Mok Y_B_toldSpots 0 := ⟨gd_in (in_t5 (List.mem_of_getElem? (i := 84) rfl)) rfl, gd_in (in_t1 (List.mem_of_getElem? (i := 1) rfl)) rfl, by decide, by decide, by decide +kernel⟩
theorem mv_B_toldSpots : MokV Y_B_toldSpots 0 := ⟨mk_B_toldSpots, gd_in (in_t5 (List.mem_of_getElem? (i := 83) rfl)) rfl, gd_in (List.mem_append_left _ (List.mem_map.mpr ⟨_, List.mem_append_right _ (List.mem_append_left _ (List.mem_of_getElem? (i := 14) rfl)), rfl⟩)) rfl⟩
theorem mk_Cw_couplesOf : Mok Y_Cw_couplesOf 1 := ⟨gd_in (in_t5 (List.mem_of_getElem? (i := 87) rfl)) rfl, gd_in (in_t1 (List.mem_of_getElem? (i := 8) rfl)) rfl, by decide, by decide, by decide +kernel⟩
theorem ms_Cw_couplesOf : MokS Y_Cw_couplesOf 1 := ⟨mk_Cw_couplesOf, gd_in (in_t5 (List.mem_of_getElem? (i := 86) rfl)) rfl⟩
theorem mk_Cw_coupleBit : Mok Y_Cw_coupleBit 2 := ⟨gd_in (in_t5 (List.mem_of_getElem? (i := 90) rfl)) rfl, gd_in (in_t1 (List.mem_of_getElem? (i := 8) rfl)) rfl, by decide, by decide, by decide +kernel⟩
theorem ms_Cw_coupleBit : MokS Y_Cw_coupleBit 2 := ⟨mk_Cw_coupleBit, gd_in (in_t5 (List.mem_of_getElem? (i := 89) rfl)) rfl⟩
theorem mk_Cw_partedBy : Mok Y_Cw_partedBy 1 := ⟨gd_in (in_t5 (List.mem_of_getElem? (i := 94) rfl)) rfl, gd_in (in_t1 (List.mem_of_getElem? (i := 8) rfl)) rfl, by decide, by decide, by decide +kernel⟩
theorem mv_Cw_partedBy : MokV Y_Cw_partedBy 1 := ⟨mk_Cw_partedBy, gd_in (in_t5 (List.mem_of_getElem? (i := 92) rfl)) rfl, gd_in (in_t5 (List.mem_of_getElem? (i := 93) rfl)) rfl⟩
theorem mk_B_apart : Mok Y_B_apart 2 := ⟨gd_in (in_t5 (List.mem_of_getElem? (i := 100) rfl)) rfl, gd_in (in_t1 (List.mem_of_getElem? (i := 1) rfl)) rfl, by decide, by decide, by decide +kernel⟩
theorem mv_B_apart : MokV Y_B_apart 2 := ⟨mk_B_apart, gd_in (in_t5 (List.mem_of_getElem? (i := 98) rfl)) rfl, gd_in (in_t5 (List.mem_of_getElem? (i := 99) rfl)) rfl⟩
theorem mk_Rf_prepare : Mok Y_Rf_prepare 1 := ⟨gd_in (in_t5 (List.mem_of_getElem? (i := 104) rfl)) rfl, gd_in (in_t1 (List.mem_of_getElem? (i := 14) rfl)) rfl, by decide, by decide, by decide +kernel⟩
theorem mv_Rf_prepare : MokV Y_Rf_prepare 1 := ⟨mk_Rf_prepare, gd_in (in_t5 (List.mem_of_getElem? (i := 102) rfl)) rfl, gd_in (in_t5 (List.mem_of_getElem? (i := 103) rfl)) rfl⟩
theorem mk_Rf_apartBy : Mok Y_Rf_apartBy 3 := ⟨gd_in (in_t5 (List.mem_of_getElem? (i := 109) rfl)) rfl, gd_in (in_t1 (List.mem_of_getElem? (i := 14) rfl)) rfl, by decide, by decide, by decide +kernel⟩
theorem mv_Rf_apartBy : MokV Y_Rf_apartBy 3 := ⟨mk_Rf_apartBy, gd_in (in_t5 (List.mem_of_getElem? (i := 108) rfl)) rfl, gd_in (List.mem_append_left _ (List.mem_map.mpr ⟨_, List.mem_append_right _ (List.mem_append_left _ (List.mem_of_getElem? (i := 15) rfl)), rfl⟩)) rfl⟩
theorem mk_Rf_later : Mok Y_Rf_later 3 := ⟨gd_in (in_t5 (List.mem_of_getElem? (i := 113) rfl)) rfl, gd_in (in_t1 (List.mem_of_getElem? (i := 14) rfl)) rfl, by decide, by decide, by decide +kernel⟩
theorem mv_Rf_later : MokV Y_Rf_later 3 := ⟨mk_Rf_later, gd_in (in_t5 (List.mem_of_getElem? (i := 112) rfl)) rfl, gd_in (List.mem_append_left _ (List.mem_map.mpr ⟨_, List.mem_append_right _ (List.mem_append_right _ (List.mem_append_left _ (List.mem_of_getElem? (i := 0) rfl))), rfl⟩)) rfl⟩
theorem mk_Rf_countApart : Mok Y_Rf_countApart 1 := ⟨gd_in (in_t5 (List.mem_of_getElem? (i := 118) rfl)) rfl, gd_in (in_t1 (List.mem_of_getElem? (i := 14) rfl)) rfl, by decide, by decide, by decide +kernel⟩
theorem mv_Rf_countApart : MokV Y_Rf_countApart 1 := ⟨mk_Rf_countApart, gd_in (in_t5 (List.mem_of_getElem? (i := 116) rfl)) rfl, gd_in (in_t5 (List.mem_of_getElem? (i := 117) rfl)) rfl⟩
theorem mk_Lg_bitCount : Mok Y_Lg_bitCount 1 := ⟨gd_in (in_t5 (List.mem_of_getElem? (i := 121) rfl)) rfl, gd_in (in_t1 (List.mem_of_getElem? (i := 23) rfl)) rfl, by decide, by decide, by decide +kernel⟩
theorem ms_Lg_bitCount : MokS Y_Lg_bitCount 1 := ⟨mk_Lg_bitCount, gd_in (in_t5 (List.mem_of_getElem? (i := 120) rfl)) rfl⟩
theorem mk_B_roofs : Mok Y_B_roofs 2 := ⟨gd_in (in_t5 (List.mem_of_getElem? (i := 128) rfl)) rfl, gd_in (in_t1 (List.mem_of_getElem? (i := 1) rfl)) rfl, by decide, by decide, by decide +kernel⟩
theorem mv_B_roofs : MokV Y_B_roofs 2 := ⟨mk_B_roofs, gd_in (in_t5 (List.mem_of_getElem? (i := 126) rfl)) rfl, gd_in (in_t5 (List.mem_of_getElem? (i := 127) rfl)) rfl⟩
theorem mk_B_look : Mok Y_B_look 1 := ⟨gd_in (in_t5 (List.mem_of_getElem? (i := 132) rfl)) rfl, gd_in (in_t1 (List.mem_of_getElem? (i := 1) rfl)) rfl, by decide, by decide, by decide +kernel⟩
theorem mv_B_look : MokV Y_B_look 1 := ⟨mk_B_look, gd_in (in_t5 (List.mem_of_getElem? (i := 130) rfl)) rfl, gd_in (in_t5 (List.mem_of_getElem? (i := 131) rfl)) rfl⟩
theorem mk_M_init : Mok Y_M_init 0 := ⟨gd_in (in_t5 (List.mem_of_getElem? (i := 137) rfl)) rfl, gd_in (in_t1 (List.mem_of_getElem? (i := 15) rfl)) rfl, by decide, by decide, by decide +kernel⟩
theorem mi_M_init : MokI Y_M_init 0 := ⟨mk_M_init, gd_in (in_t5 (List.mem_of_getElem? (i := 136) rfl)) rfl, rfl, rfl⟩
theorem mk_M_set : Mok Y_M_set 2 := ⟨gd_in (in_t6 (List.mem_of_getElem? (i := 126) rfl)) rfl, gd_in (in_t1 (List.mem_of_getElem? (i := 15) rfl)) rfl, by decide, by decide, by decide +kernel⟩
theorem mv_M_set : MokV Y_M_set 2 := ⟨mk_M_set, gd_in (in_t6 (List.mem_of_getElem? (i := 124) rfl)) rfl, gd_in (in_t6 (List.mem_of_getElem? (i := 125) rfl)) rfl⟩
theorem mk_M_isIn : Mok Y_M_isIn 3 := ⟨gd_in (in_t6 (List.mem_of_getElem? (i := 130) rfl)) rfl, gd_in (in_t1 (List.mem_of_getElem? (i := 15) rfl)) rfl, by decide, by decide, by decide +kernel⟩
theorem mv_M_isIn : MokV Y_M_isIn 3 := ⟨mk_M_isIn, gd_in (in_t6 (List.mem_of_getElem? (i := 129) rfl)) rfl, gd_in (List.mem_append_left _ (List.mem_map.mpr ⟨_, List.mem_append_right _ (List.mem_append_right _ (List.mem_append_left _ (List.mem_of_getElem? (i := 1) rfl))), rfl⟩)) rfl⟩
theorem mk_M_comes : Mok Y_M_comes 3 := ⟨gd_in (in_t6 (List.mem_of_getElem? (i := 134) rfl)) rfl, gd_in (in_t1 (List.mem_of_getElem? (i := 15) rfl)) rfl, by decide, by decide, by decide +kernel⟩
theorem mv_M_comes : MokV Y_M_comes 3 := ⟨mk_M_comes, gd_in (in_t6 (List.mem_of_getElem? (i := 132) rfl)) rfl, gd_in (in_t6 (List.mem_of_getElem? (i := 133) rfl)) rfl⟩
theorem mk_M_isCell : Mok Y_M_isCell 1 := ⟨gd_in (in_t6 (List.mem_of_getElem? (i := 138) rfl)) rfl, gd_in (in_t1 (List.mem_of_getElem? (i := 15) rfl)) rfl, by decide, by decide, by decide +kernel⟩
theorem mv_M_isCell : MokV Y_M_isCell 1 := ⟨mk_M_isCell, gd_in (in_t6 (List.mem_of_getElem? (i := 137) rfl)) rfl, gd_in (List.mem_append_left _ (List.mem_map.mpr ⟨_, List.mem_append_right _ (List.mem_append_right _ (List.mem_append_left _ (List.mem_of_getElem? (i := 2) rfl))), rfl⟩)) rfl⟩
theorem mk_M_delay : Mok Y_M_delay 2 := ⟨gd_in (in_t6 (List.mem_of_getElem? (i := 142) rfl)) rfl, gd_in (in_t1 (List.mem_of_getElem? (i := 15) rfl)) rfl, by decide, by decide, by decide +kernel⟩
theorem mv_M_delay : MokV Y_M_delay 2 := ⟨mk_M_delay, gd_in (in_t6 (List.mem_of_getElem? (i := 141) rfl)) rfl, gd_in (List.mem_append_left _ (List.mem_map.mpr ⟨_, List.mem_append_right _ (List.mem_append_right _ (List.mem_append_left _ (List.mem_of_getElem? (i := 3) rfl))), rfl⟩)) rfl⟩
theorem mk_M_distance : Mok Y_M_distance 2 := ⟨gd_in (in_t6 (List.mem_of_getElem? (i := 146) rfl)) rfl, gd_in (in_t1 (List.mem_of_getElem? (i := 15) rfl)) rfl, by decide, by decide, by decide +kernel⟩
theorem mv_M_distance : MokV Y_M_distance 2 := ⟨mk_M_distance, gd_in (in_t6 (List.mem_of_getElem? (i := 145) rfl)) rfl, gd_in (List.mem_append_left _ (List.mem_map.mpr ⟨_, List.mem_append_right _ (List.mem_append_right _ (List.mem_append_left _ (List.mem_of_getElem? (i := 4) rfl))), rfl⟩)) rfl⟩
theorem mk_M_root : Mok Y_M_root 1 := ⟨gd_in (in_t6 (List.mem_of_getElem? (i := 150) rfl)) rfl, gd_in (in_t1 (List.mem_of_getElem? (i := 15) rfl)) rfl, by decide, by decide, by decide +kernel⟩
theorem mv_M_root : MokV Y_M_root 1 := ⟨mk_M_root, gd_in (in_t6 (List.mem_of_getElem? (i := 149) rfl)) rfl, gd_in (List.mem_append_left _ (List.mem_map.mpr ⟨_, List.mem_append_right _ (List.mem_append_right _ (List.mem_append_left _ (List.mem_of_getElem? (i := 5) rfl))), rfl⟩)) rfl⟩
theorem mk_M_floor : Mok Y_M_floor 2 := ⟨gd_in (in_t6 (List.mem_of_getElem? (i := 154) rfl)) rfl, gd_in (in_t1 (List.mem_of_getElem? (i := 15) rfl)) rfl, by decide, by decide, by decide +kernel⟩
theorem mv_M_floor : MokV Y_M_floor 2 := ⟨mk_M_floor, gd_in (in_t6 (List.mem_of_getElem? (i := 153) rfl)) rfl, gd_in (List.mem_append_left _ (List.mem_map.mpr ⟨_, List.mem_append_right _ (List.mem_append_right _ (List.mem_append_left _ (List.mem_of_getElem? (i := 6) rfl))), rfl⟩)) rfl⟩
theorem mk_M_apartOf : Mok Y_M_apartOf 2 := ⟨gd_in (in_t6 (List.mem_of_getElem? (i := 158) rfl)) rfl, gd_in (in_t1 (List.mem_of_getElem? (i := 15) rfl)) rfl, by decide, by decide, by decide +kernel⟩
theorem mv_M_apartOf : MokV Y_M_apartOf 2 := ⟨mk_M_apartOf, gd_in (in_t6 (List.mem_of_getElem? (i := 157) rfl)) rfl, gd_in (List.mem_append_left _ (List.mem_map.mpr ⟨_, List.mem_append_right _ (List.mem_append_right _ (List.mem_append_left _ (List.mem_of_getElem? (i := 7) rfl))), rfl⟩)) rfl⟩
theorem mk_M_loudBy : Mok Y_M_loudBy 1 := ⟨gd_in (in_t6 (List.mem_of_getElem? (i := 162) rfl)) rfl, gd_in (in_t1 (List.mem_of_getElem? (i := 15) rfl)) rfl, by decide, by decide, by decide +kernel⟩
theorem mv_M_loudBy : MokV Y_M_loudBy 1 := ⟨mk_M_loudBy, gd_in (in_t6 (List.mem_of_getElem? (i := 161) rfl)) rfl, gd_in (List.mem_append_left _ (List.mem_map.mpr ⟨_, List.mem_append_right _ (List.mem_append_right _ (List.mem_append_left _ (List.mem_of_getElem? (i := 8) rfl))), rfl⟩)) rfl⟩
theorem mk_M_sectorOf : Mok Y_M_sectorOf 2 := ⟨gd_in (in_t6 (List.mem_of_getElem? (i := 166) rfl)) rfl, gd_in (in_t1 (List.mem_of_getElem? (i := 15) rfl)) rfl, by decide, by decide, by decide +kernel⟩
theorem mv_M_sectorOf : MokV Y_M_sectorOf 2 := ⟨mk_M_sectorOf, gd_in (in_t6 (List.mem_of_getElem? (i := 165) rfl)) rfl, gd_in (List.mem_append_left _ (List.mem_map.mpr ⟨_, List.mem_append_right _ (List.mem_append_right _ (List.mem_append_left _ (List.mem_of_getElem? (i := 9) rfl))), rfl⟩)) rfl⟩
theorem mk_M_sectorBy : Mok Y_M_sectorBy 2 := ⟨gd_in (in_t6 (List.mem_of_getElem? (i := 170) rfl)) rfl, gd_in (in_t1 (List.mem_of_getElem? (i := 15) rfl)) rfl, by decide, by decide, by decide +kernel⟩
theorem mv_M_sectorBy : MokV Y_M_sectorBy 2 := ⟨mk_M_sectorBy, gd_in (in_t6 (List.mem_of_getElem? (i := 169) rfl)) rfl, gd_in (List.mem_append_left _ (List.mem_map.mpr ⟨_, List.mem_append_right _ (List.mem_append_right _ (List.mem_append_left _ (List.mem_of_getElem? (i := 10) rfl))), rfl⟩)) rfl⟩
theorem mk_M_sectorUp : Mok Y_M_sectorUp 2 := ⟨gd_in (in_t6 (List.mem_of_getElem? (i := 174) rfl)) rfl, gd_in (in_t1 (List.mem_of_getElem? (i := 15) rfl)) rfl, by decide, by decide, by decide +kernel⟩
theorem mv_M_sectorUp : MokV Y_M_sectorUp 2 := ⟨mk_M_sectorUp, gd_in (in_t6 (List.mem_of_getElem? (i := 173) rfl)) rfl, gd_in (List.mem_append_left _ (List.mem_map.mpr ⟨_, List.mem_append_right _ (List.mem_append_right _ (List.mem_append_left _ (List.mem_of_getElem? (i := 11) rfl))), rfl⟩)) rfl⟩
theorem mk_M_wall : Mok Y_M_wall 5 := ⟨gd_in (in_t6 (List.mem_of_getElem? (i := 178) rfl)) rfl, gd_in (in_t1 (List.mem_of_getElem? (i := 15) rfl)) rfl, by decide, by decide, by decide +kernel⟩
theorem mv_M_wall : MokV Y_M_wall 5 := ⟨mk_M_wall, gd_in (in_t6 (List.mem_of_getElem? (i := 176) rfl)) rfl, gd_in (in_t6 (List.mem_of_getElem? (i := 177) rfl)) rfl⟩
theorem mk_M_isSide : Mok Y_M_isSide 1 := ⟨gd_in (in_t6 (List.mem_of_getElem? (i := 182) rfl)) rfl, gd_in (in_t1 (List.mem_of_getElem? (i := 15) rfl)) rfl, by decide, by decide, by decide +kernel⟩
theorem mv_M_isSide : MokV Y_M_isSide 1 := ⟨mk_M_isSide, gd_in (in_t6 (List.mem_of_getElem? (i := 181) rfl)) rfl, gd_in (List.mem_append_left _ (List.mem_map.mpr ⟨_, List.mem_append_right _ (List.mem_append_right _ (List.mem_append_left _ (List.mem_of_getElem? (i := 12) rfl))), rfl⟩)) rfl⟩
theorem mk_M_spot : Mok Y_M_spot 2 := ⟨gd_in (in_t6 (List.mem_of_getElem? (i := 186) rfl)) rfl, gd_in (in_t1 (List.mem_of_getElem? (i := 15) rfl)) rfl, by decide, by decide, by decide +kernel⟩
theorem mv_M_spot : MokV Y_M_spot 2 := ⟨mk_M_spot, gd_in (in_t6 (List.mem_of_getElem? (i := 184) rfl)) rfl, gd_in (in_t6 (List.mem_of_getElem? (i := 185) rfl)) rfl⟩
theorem mk_M_shot : Mok Y_M_shot 4 := ⟨gd_in (in_t6 (List.mem_of_getElem? (i := 190) rfl)) rfl, gd_in (in_t1 (List.mem_of_getElem? (i := 15) rfl)) rfl, by decide, by decide, by decide +kernel⟩
theorem mv_M_shot : MokV Y_M_shot 4 := ⟨mk_M_shot, gd_in (in_t6 (List.mem_of_getElem? (i := 188) rfl)) rfl, gd_in (in_t6 (List.mem_of_getElem? (i := 189) rfl)) rfl⟩
theorem mk_M_gets : Mok Y_M_gets 3 := ⟨gd_in (in_t6 (List.mem_of_getElem? (i := 195) rfl)) rfl, gd_in (in_t1 (List.mem_of_getElem? (i := 15) rfl)) rfl, by decide, by decide, by decide +kernel⟩
theorem mv_M_gets : MokV Y_M_gets 3 := ⟨mk_M_gets, gd_in (in_t6 (List.mem_of_getElem? (i := 193) rfl)) rfl, gd_in (in_t6 (List.mem_of_getElem? (i := 194) rfl)) rfl⟩
theorem mk_M_isShot : Mok Y_M_isShot 1 := ⟨gd_in (in_t6 (List.mem_of_getElem? (i := 199) rfl)) rfl, gd_in (in_t1 (List.mem_of_getElem? (i := 15) rfl)) rfl, by decide, by decide, by decide +kernel⟩
theorem mv_M_isShot : MokV Y_M_isShot 1 := ⟨mk_M_isShot, gd_in (in_t6 (List.mem_of_getElem? (i := 198) rfl)) rfl, gd_in (List.mem_append_left _ (List.mem_map.mpr ⟨_, List.mem_append_right _ (List.mem_append_right _ (List.mem_append_left _ (List.mem_of_getElem? (i := 13) rfl))), rfl⟩)) rfl⟩
theorem mk_M_hearsShot : Mok Y_M_hearsShot 2 := ⟨gd_in (in_t6 (List.mem_of_getElem? (i := 203) rfl)) rfl, gd_in (in_t1 (List.mem_of_getElem? (i := 15) rfl)) rfl, by decide, by decide, by decide +kernel⟩
theorem mv_M_hearsShot : MokV Y_M_hearsShot 2 := ⟨mk_M_hearsShot, gd_in (in_t6 (List.mem_of_getElem? (i := 202) rfl)) rfl, gd_in (List.mem_append_left _ (List.mem_map.mpr ⟨_, List.mem_append_right _ (List.mem_append_right _ (List.mem_append_left _ (List.mem_of_getElem? (i := 14) rfl))), rfl⟩)) rfl⟩
theorem mk_M_hears : Mok Y_M_hears 5 := ⟨gd_in (in_t6 (List.mem_of_getElem? (i := 207) rfl)) rfl, gd_in (in_t1 (List.mem_of_getElem? (i := 15) rfl)) rfl, by decide, by decide, by decide +kernel⟩
theorem mv_M_hears : MokV Y_M_hears 5 := ⟨mk_M_hears, gd_in (in_t6 (List.mem_of_getElem? (i := 206) rfl)) rfl, gd_in (List.mem_append_left _ (List.mem_map.mpr ⟨_, List.mem_append_right _ (List.mem_append_right _ (List.mem_append_left _ (List.mem_of_getElem? (i := 15) rfl))), rfl⟩)) rfl⟩
theorem mk_M_findsCrack : Mok Y_M_findsCrack 5 := ⟨gd_in (in_t6 (List.mem_of_getElem? (i := 211) rfl)) rfl, gd_in (in_t1 (List.mem_of_getElem? (i := 15) rfl)) rfl, by decide, by decide, by decide +kernel⟩
theorem mv_M_findsCrack : MokV Y_M_findsCrack 5 := ⟨mk_M_findsCrack, gd_in (in_t6 (List.mem_of_getElem? (i := 210) rfl)) rfl, gd_in (List.mem_append_left _ (List.mem_map.mpr ⟨_, List.mem_append_right _ (List.mem_append_right _ (List.mem_append_right _ (List.mem_append_left _ (List.mem_of_getElem? (i := 0) rfl)))), rfl⟩)) rfl⟩
theorem mk_M_size : Mok Y_M_size 1 := ⟨gd_in (in_t6 (List.mem_of_getElem? (i := 215) rfl)) rfl, gd_in (in_t1 (List.mem_of_getElem? (i := 15) rfl)) rfl, by decide, by decide, by decide +kernel⟩
theorem mv_M_size : MokV Y_M_size 1 := ⟨mk_M_size, gd_in (in_t6 (List.mem_of_getElem? (i := 214) rfl)) rfl, gd_in (List.mem_append_left _ (List.mem_map.mpr ⟨_, List.mem_append_right _ (List.mem_append_right _ (List.mem_append_right _ (List.mem_append_left _ (List.mem_of_getElem? (i := 1) rfl)))), rfl⟩)) rfl⟩
theorem mk_M_findsBack : Mok Y_M_findsBack 6 := ⟨gd_in (in_t6 (List.mem_of_getElem? (i := 219) rfl)) rfl, gd_in (in_t1 (List.mem_of_getElem? (i := 15) rfl)) rfl, by decide, by decide, by decide +kernel⟩
theorem mv_M_findsBack : MokV Y_M_findsBack 6 := ⟨mk_M_findsBack, gd_in (in_t6 (List.mem_of_getElem? (i := 218) rfl)) rfl, gd_in (List.mem_append_left _ (List.mem_map.mpr ⟨_, List.mem_append_right _ (List.mem_append_right _ (List.mem_append_right _ (List.mem_append_left _ (List.mem_of_getElem? (i := 2) rfl)))), rfl⟩)) rfl⟩
theorem mk_M_feed : Mok Y_M_feed 5 := ⟨gd_in (in_t6 (List.mem_of_getElem? (i := 223) rfl)) rfl, gd_in (in_t1 (List.mem_of_getElem? (i := 15) rfl)) rfl, by decide, by decide, by decide +kernel⟩
theorem mv_M_feed : MokV Y_M_feed 5 := ⟨mk_M_feed, gd_in (in_t6 (List.mem_of_getElem? (i := 221) rfl)) rfl, gd_in (in_t6 (List.mem_of_getElem? (i := 222) rfl)) rfl⟩
theorem mk_M_puts : Mok Y_M_puts 1 := ⟨gd_in (in_t6 (List.mem_of_getElem? (i := 227) rfl)) rfl, gd_in (in_t1 (List.mem_of_getElem? (i := 15) rfl)) rfl, by decide, by decide, by decide +kernel⟩
theorem mv_M_puts : MokV Y_M_puts 1 := ⟨mk_M_puts, gd_in (in_t6 (List.mem_of_getElem? (i := 226) rfl)) rfl, gd_in (List.mem_append_left _ (List.mem_map.mpr ⟨_, List.mem_append_right _ (List.mem_append_right _ (List.mem_append_right _ (List.mem_append_left _ (List.mem_of_getElem? (i := 3) rfl)))), rfl⟩)) rfl⟩
theorem mk_M_end : Mok Y_M_end 1 := ⟨gd_in (in_t6 (List.mem_of_getElem? (i := 231) rfl)) rfl, gd_in (in_t1 (List.mem_of_getElem? (i := 15) rfl)) rfl, by decide, by decide, by decide +kernel⟩
theorem mv_M_end : MokV Y_M_end 1 := ⟨mk_M_end, gd_in (in_t6 (List.mem_of_getElem? (i := 229) rfl)) rfl, gd_in (in_t6 (List.mem_of_getElem? (i := 230) rfl)) rfl⟩
theorem mk_M_text : Mok Y_M_text 1 := ⟨gd_in (in_t6 (List.mem_of_getElem? (i := 235) rfl)) rfl, gd_in (in_t1 (List.mem_of_getElem? (i := 15) rfl)) rfl, by decide, by decide, by decide +kernel⟩
theorem mv_M_text : MokV Y_M_text 1 := ⟨mk_M_text, gd_in (in_t6 (List.mem_of_getElem? (i := 233) rfl)) rfl, gd_in (in_t6 (List.mem_of_getElem? (i := 234) rfl)) rfl⟩
theorem mk_M_readText : Mok Y_M_readText 0 := ⟨gd_in (in_t6 (List.mem_of_getElem? (i := 239) rfl)) rfl, gd_in (in_t1 (List.mem_of_getElem? (i := 15) rfl)) rfl, by decide, by decide, by decide +kernel⟩
theorem mv_M_readText : MokV Y_M_readText 0 := ⟨mk_M_readText, gd_in (in_t6 (List.mem_of_getElem? (i := 238) rfl)) rfl, gd_in (List.mem_append_left _ (List.mem_map.mpr ⟨_, List.mem_append_right _ (List.mem_append_right _ (List.mem_append_right _ (List.mem_append_left _ (List.mem_of_getElem? (i := 4) rfl)))), rfl⟩)) rfl⟩
theorem mk_M_reads : Mok Y_M_reads 0 := ⟨gd_in (in_t7 (List.mem_of_getElem? (i := 3) rfl)) rfl, gd_in (in_t1 (List.mem_of_getElem? (i := 15) rfl)) rfl, by decide, by decide, by decide +kernel⟩
theorem mv_M_reads : MokV Y_M_reads 0 := ⟨mk_M_reads, gd_in (in_t7 (List.mem_of_getElem? (i := 2) rfl)) rfl, gd_in (List.mem_append_left _ (List.mem_map.mpr ⟨_, List.mem_append_right _ (List.mem_append_right _ (List.mem_append_right _ (List.mem_append_left _ (List.mem_of_getElem? (i := 5) rfl)))), rfl⟩)) rfl⟩
theorem mk_M_raw : Mok Y_M_raw 1 := ⟨gd_in (in_t7 (List.mem_of_getElem? (i := 7) rfl)) rfl, gd_in (in_t1 (List.mem_of_getElem? (i := 15) rfl)) rfl, by decide, by decide, by decide +kernel⟩
theorem mv_M_raw : MokV Y_M_raw 1 := ⟨mk_M_raw, gd_in (in_t7 (List.mem_of_getElem? (i := 6) rfl)) rfl, gd_in (List.mem_append_left _ (List.mem_map.mpr ⟨_, List.mem_append_right _ (List.mem_append_right _ (List.mem_append_right _ (List.mem_append_left _ (List.mem_of_getElem? (i := 6) rfl)))), rfl⟩)) rfl⟩
theorem mk_M_isLetter : Mok Y_M_isLetter 1 := ⟨gd_in (in_t7 (List.mem_of_getElem? (i := 11) rfl)) rfl, gd_in (in_t1 (List.mem_of_getElem? (i := 15) rfl)) rfl, by decide, by decide, by decide +kernel⟩
theorem mv_M_isLetter : MokV Y_M_isLetter 1 := ⟨mk_M_isLetter, gd_in (in_t7 (List.mem_of_getElem? (i := 10) rfl)) rfl, gd_in (List.mem_append_left _ (List.mem_map.mpr ⟨_, List.mem_append_right _ (List.mem_append_right _ (List.mem_append_right _ (List.mem_append_left _ (List.mem_of_getElem? (i := 7) rfl)))), rfl⟩)) rfl⟩
theorem mk_M_wordAt : Mok Y_M_wordAt 2 := ⟨gd_in (in_t7 (List.mem_of_getElem? (i := 15) rfl)) rfl, gd_in (in_t1 (List.mem_of_getElem? (i := 15) rfl)) rfl, by decide, by decide, by decide +kernel⟩
theorem mv_M_wordAt : MokV Y_M_wordAt 2 := ⟨mk_M_wordAt, gd_in (in_t7 (List.mem_of_getElem? (i := 14) rfl)) rfl, gd_in (List.mem_append_left _ (List.mem_map.mpr ⟨_, List.mem_append_right _ (List.mem_append_right _ (List.mem_append_right _ (List.mem_append_left _ (List.mem_of_getElem? (i := 8) rfl)))), rfl⟩)) rfl⟩
theorem mk_M_isDigit : Mok Y_M_isDigit 1 := ⟨gd_in (in_t7 (List.mem_of_getElem? (i := 19) rfl)) rfl, gd_in (in_t1 (List.mem_of_getElem? (i := 15) rfl)) rfl, by decide, by decide, by decide +kernel⟩
theorem mv_M_isDigit : MokV Y_M_isDigit 1 := ⟨mk_M_isDigit, gd_in (in_t7 (List.mem_of_getElem? (i := 18) rfl)) rfl, gd_in (List.mem_append_left _ (List.mem_map.mpr ⟨_, List.mem_append_right _ (List.mem_append_right _ (List.mem_append_right _ (List.mem_append_left _ (List.mem_of_getElem? (i := 9) rfl)))), rfl⟩)) rfl⟩
theorem mk_M_isMarkSign : Mok Y_M_isMarkSign 1 := ⟨gd_in (in_t7 (List.mem_of_getElem? (i := 24) rfl)) rfl, gd_in (in_t1 (List.mem_of_getElem? (i := 15) rfl)) rfl, by decide, by decide, by decide +kernel⟩
theorem mv_M_isMarkSign : MokV Y_M_isMarkSign 1 := ⟨mk_M_isMarkSign, gd_in (in_t7 (List.mem_of_getElem? (i := 23) rfl)) rfl, gd_in (List.mem_append_left _ (List.mem_map.mpr ⟨_, List.mem_append_right _ (List.mem_append_right _ (List.mem_append_right _ (List.mem_append_left _ (List.mem_of_getElem? (i := 10) rfl)))), rfl⟩)) rfl⟩
theorem mk_M_isBegin : Mok Y_M_isBegin 0 := ⟨gd_in (in_t7 (List.mem_of_getElem? (i := 28) rfl)) rfl, gd_in (in_t1 (List.mem_of_getElem? (i := 15) rfl)) rfl, by decide, by decide, by decide +kernel⟩
theorem mv_M_isBegin : MokV Y_M_isBegin 0 := ⟨mk_M_isBegin, gd_in (in_t7 (List.mem_of_getElem? (i := 27) rfl)) rfl, gd_in (List.mem_append_left _ (List.mem_map.mpr ⟨_, List.mem_append_right _ (List.mem_append_right _ (List.mem_append_right _ (List.mem_append_left _ (List.mem_of_getElem? (i := 11) rfl)))), rfl⟩)) rfl⟩
theorem mk_M_fails : Mok Y_M_fails 1 := ⟨gd_in (in_t7 (List.mem_of_getElem? (i := 32) rfl)) rfl, gd_in (in_t1 (List.mem_of_getElem? (i := 15) rfl)) rfl, by decide, by decide, by decide +kernel⟩
theorem mv_M_fails : MokV Y_M_fails 1 := ⟨mk_M_fails, gd_in (in_t7 (List.mem_of_getElem? (i := 31) rfl)) rfl, gd_in (List.mem_append_left _ (List.mem_map.mpr ⟨_, List.mem_append_right _ (List.mem_append_right _ (List.mem_append_right _ (List.mem_append_left _ (List.mem_of_getElem? (i := 12) rfl)))), rfl⟩)) rfl⟩
theorem mk_M_readLine : Mok Y_M_readLine 1 := ⟨gd_in (in_t7 (List.mem_of_getElem? (i := 36) rfl)) rfl, gd_in (in_t1 (List.mem_of_getElem? (i := 15) rfl)) rfl, by decide, by decide, by decide +kernel⟩
theorem mv_M_readLine : MokV Y_M_readLine 1 := ⟨mk_M_readLine, gd_in (in_t7 (List.mem_of_getElem? (i := 35) rfl)) rfl, gd_in (List.mem_append_left _ (List.mem_map.mpr ⟨_, List.mem_append_right _ (List.mem_append_right _ (List.mem_append_right _ (List.mem_append_left _ (List.mem_of_getElem? (i := 13) rfl)))), rfl⟩)) rfl⟩
theorem mk_M_isWord : Mok Y_M_isWord 1 := ⟨gd_in (in_t7 (List.mem_of_getElem? (i := 40) rfl)) rfl, gd_in (in_t1 (List.mem_of_getElem? (i := 15) rfl)) rfl, by decide, by decide, by decide +kernel⟩
theorem mv_M_isWord : MokV Y_M_isWord 1 := ⟨mk_M_isWord, gd_in (in_t7 (List.mem_of_getElem? (i := 39) rfl)) rfl, gd_in (List.mem_append_left _ (List.mem_map.mpr ⟨_, List.mem_append_right _ (List.mem_append_right _ (List.mem_append_right _ (List.mem_append_left _ (List.mem_of_getElem? (i := 14) rfl)))), rfl⟩)) rfl⟩
theorem mk_M_readAny : Mok Y_M_readAny 0 := ⟨gd_in (in_t7 (List.mem_of_getElem? (i := 44) rfl)) rfl, gd_in (in_t1 (List.mem_of_getElem? (i := 15) rfl)) rfl, by decide, by decide, by decide +kernel⟩
theorem mv_M_readAny : MokV Y_M_readAny 0 := ⟨mk_M_readAny, gd_in (in_t7 (List.mem_of_getElem? (i := 43) rfl)) rfl, gd_in (List.mem_append_left _ (List.mem_map.mpr ⟨_, List.mem_append_right _ (List.mem_append_right _ (List.mem_append_right _ (List.mem_append_left _ (List.mem_of_getElem? (i := 15) rfl)))), rfl⟩)) rfl⟩
theorem mk_M_isSign : Mok Y_M_isSign 1 := ⟨gd_in (in_t7 (List.mem_of_getElem? (i := 48) rfl)) rfl, gd_in (in_t1 (List.mem_of_getElem? (i := 15) rfl)) rfl, by decide, by decide, by decide +kernel⟩
theorem mv_M_isSign : MokV Y_M_isSign 1 := ⟨mk_M_isSign, gd_in (in_t7 (List.mem_of_getElem? (i := 47) rfl)) rfl, gd_in (List.mem_append_left _ (List.mem_map.mpr ⟨_, List.mem_append_right _ (List.mem_append_right _ (List.mem_append_right _ (List.mem_append_right _ (List.mem_append_left _ (List.mem_of_getElem? (i := 0) rfl))))), rfl⟩)) rfl⟩
theorem mk_M_waits : Mok Y_M_waits 1 := ⟨gd_in (in_t7 (List.mem_of_getElem? (i := 52) rfl)) rfl, gd_in (in_t1 (List.mem_of_getElem? (i := 15) rfl)) rfl, by decide, by decide, by decide +kernel⟩
theorem mv_M_waits : MokV Y_M_waits 1 := ⟨mk_M_waits, gd_in (in_t7 (List.mem_of_getElem? (i := 51) rfl)) rfl, gd_in (List.mem_append_left _ (List.mem_map.mpr ⟨_, List.mem_append_right _ (List.mem_append_right _ (List.mem_append_right _ (List.mem_append_right _ (List.mem_append_left _ (List.mem_of_getElem? (i := 1) rfl))))), rfl⟩)) rfl⟩
theorem mk_M_readCompared : Mok Y_M_readCompared 0 := ⟨gd_in (in_t7 (List.mem_of_getElem? (i := 56) rfl)) rfl, gd_in (in_t1 (List.mem_of_getElem? (i := 15) rfl)) rfl, by decide, by decide, by decide +kernel⟩
theorem mv_M_readCompared : MokV Y_M_readCompared 0 := ⟨mk_M_readCompared, gd_in (in_t7 (List.mem_of_getElem? (i := 55) rfl)) rfl, gd_in (List.mem_append_left _ (List.mem_map.mpr ⟨_, List.mem_append_right _ (List.mem_append_right _ (List.mem_append_right _ (List.mem_append_right _ (List.mem_append_left _ (List.mem_of_getElem? (i := 2) rfl))))), rfl⟩)) rfl⟩
theorem mk_M_readSum : Mok Y_M_readSum 0 := ⟨gd_in (in_t7 (List.mem_of_getElem? (i := 60) rfl)) rfl, gd_in (in_t1 (List.mem_of_getElem? (i := 15) rfl)) rfl, by decide, by decide, by decide +kernel⟩
theorem mv_M_readSum : MokV Y_M_readSum 0 := ⟨mk_M_readSum, gd_in (in_t7 (List.mem_of_getElem? (i := 59) rfl)) rfl, gd_in (List.mem_append_left _ (List.mem_map.mpr ⟨_, List.mem_append_right _ (List.mem_append_right _ (List.mem_append_right _ (List.mem_append_right _ (List.mem_append_left _ (List.mem_of_getElem? (i := 3) rfl))))), rfl⟩)) rfl⟩
theorem mk_M_readProduct : Mok Y_M_readProduct 0 := ⟨gd_in (in_t7 (List.mem_of_getElem? (i := 64) rfl)) rfl, gd_in (in_t1 (List.mem_of_getElem? (i := 15) rfl)) rfl, by decide, by decide, by decide +kernel⟩
theorem mv_M_readProduct : MokV Y_M_readProduct 0 := ⟨mk_M_readProduct, gd_in (in_t7 (List.mem_of_getElem? (i := 63) rfl)) rfl, gd_in (List.mem_append_left _ (List.mem_map.mpr ⟨_, List.mem_append_right _ (List.mem_append_right _ (List.mem_append_right _ (List.mem_append_right _ (List.mem_append_left _ (List.mem_of_getElem? (i := 4) rfl))))), rfl⟩)) rfl⟩
theorem mk_M_readUnit : Mok Y_M_readUnit 0 := ⟨gd_in (in_t7 (List.mem_of_getElem? (i := 68) rfl)) rfl, gd_in (in_t1 (List.mem_of_getElem? (i := 15) rfl)) rfl, by decide, by decide, by decide +kernel⟩
theorem mv_M_readUnit : MokV Y_M_readUnit 0 := ⟨mk_M_readUnit, gd_in (in_t7 (List.mem_of_getElem? (i := 67) rfl)) rfl, gd_in (List.mem_append_left _ (List.mem_map.mpr ⟨_, List.mem_append_right _ (List.mem_append_right _ (List.mem_append_right _ (List.mem_append_right _ (List.mem_append_left _ (List.mem_of_getElem? (i := 5) rfl))))), rfl⟩)) rfl⟩
theorem mk_M_askedBy : Mok Y_M_askedBy 0 := ⟨gd_in (in_t7 (List.mem_of_getElem? (i := 72) rfl)) rfl, gd_in (in_t1 (List.mem_of_getElem? (i := 15) rfl)) rfl, by decide, by decide, by decide +kernel⟩
theorem mv_M_askedBy : MokV Y_M_askedBy 0 := ⟨mk_M_askedBy, gd_in (in_t7 (List.mem_of_getElem? (i := 71) rfl)) rfl, gd_in (List.mem_append_left _ (List.mem_map.mpr ⟨_, List.mem_append_right _ (List.mem_append_right _ (List.mem_append_right _ (List.mem_append_right _ (List.mem_append_left _ (List.mem_of_getElem? (i := 6) rfl))))), rfl⟩)) rfl⟩
theorem mk_M_emits : Mok Y_M_emits 2 := ⟨gd_in (in_t7 (List.mem_of_getElem? (i := 76) rfl)) rfl, gd_in (in_t1 (List.mem_of_getElem? (i := 15) rfl)) rfl, by decide, by decide, by decide +kernel⟩
theorem mv_M_emits : MokV Y_M_emits 2 := ⟨mk_M_emits, gd_in (in_t7 (List.mem_of_getElem? (i := 75) rfl)) rfl, gd_in (List.mem_append_left _ (List.mem_map.mpr ⟨_, List.mem_append_right _ (List.mem_append_right _ (List.mem_append_right _ (List.mem_append_right _ (List.mem_append_left _ (List.mem_of_getElem? (i := 7) rfl))))), rfl⟩)) rfl⟩
theorem mk_M_settles : Mok Y_M_settles 1 := ⟨gd_in (in_t7 (List.mem_of_getElem? (i := 80) rfl)) rfl, gd_in (in_t1 (List.mem_of_getElem? (i := 15) rfl)) rfl, by decide, by decide, by decide +kernel⟩
theorem mv_M_settles : MokV Y_M_settles 1 := ⟨mk_M_settles, gd_in (in_t7 (List.mem_of_getElem? (i := 79) rfl)) rfl, gd_in (List.mem_append_left _ (List.mem_map.mpr ⟨_, List.mem_append_right _ (List.mem_append_right _ (List.mem_append_right _ (List.mem_append_right _ (List.mem_append_left _ (List.mem_of_getElem? (i := 8) rfl))))), rfl⟩)) rfl⟩
theorem mk_M_fault : Mok Y_M_fault 1 := ⟨gd_in (in_t7 (List.mem_of_getElem? (i := 84) rfl)) rfl, gd_in (in_t1 (List.mem_of_getElem? (i := 15) rfl)) rfl, by decide, by decide, by decide +kernel⟩
theorem mv_M_fault : MokV Y_M_fault 1 := ⟨mk_M_fault, gd_in (in_t7 (List.mem_of_getElem? (i := 82) rfl)) rfl, gd_in (in_t7 (List.mem_of_getElem? (i := 83) rfl)) rfl⟩
theorem mk_M_hearer : Mok Y_M_hearer 2 := ⟨gd_in (in_t7 (List.mem_of_getElem? (i := 88) rfl)) rfl, gd_in (in_t1 (List.mem_of_getElem? (i := 15) rfl)) rfl, by decide, by decide, by decide +kernel⟩
theorem mv_M_hearer : MokV Y_M_hearer 2 := ⟨mk_M_hearer, gd_in (in_t7 (List.mem_of_getElem? (i := 86) rfl)) rfl, gd_in (in_t7 (List.mem_of_getElem? (i := 87) rfl)) rfl⟩
theorem mk_M_turning : Mok Y_M_turning 3 := ⟨gd_in (in_t7 (List.mem_of_getElem? (i := 92) rfl)) rfl, gd_in (in_t1 (List.mem_of_getElem? (i := 15) rfl)) rfl, by decide, by decide, by decide +kernel⟩
theorem mv_M_turning : MokV Y_M_turning 3 := ⟨mk_M_turning, gd_in (in_t7 (List.mem_of_getElem? (i := 90) rfl)) rfl, gd_in (in_t7 (List.mem_of_getElem? (i := 91) rfl)) rfl⟩
theorem mk_M_isLaw : Mok Y_M_isLaw 1 := ⟨gd_in (in_t7 (List.mem_of_getElem? (i := 96) rfl)) rfl, gd_in (in_t1 (List.mem_of_getElem? (i := 15) rfl)) rfl, by decide, by decide, by decide +kernel⟩
theorem mv_M_isLaw : MokV Y_M_isLaw 1 := ⟨mk_M_isLaw, gd_in (in_t7 (List.mem_of_getElem? (i := 95) rfl)) rfl, gd_in (List.mem_append_left _ (List.mem_map.mpr ⟨_, List.mem_append_right _ (List.mem_append_right _ (List.mem_append_right _ (List.mem_append_right _ (List.mem_append_left _ (List.mem_of_getElem? (i := 9) rfl))))), rfl⟩)) rfl⟩
theorem mk_M_turnsOf : Mok Y_M_turnsOf 3 := ⟨gd_in (in_t7 (List.mem_of_getElem? (i := 100) rfl)) rfl, gd_in (in_t1 (List.mem_of_getElem? (i := 15) rfl)) rfl, by decide, by decide, by decide +kernel⟩
theorem mv_M_turnsOf : MokV Y_M_turnsOf 3 := ⟨mk_M_turnsOf, gd_in (in_t7 (List.mem_of_getElem? (i := 99) rfl)) rfl, gd_in (List.mem_append_left _ (List.mem_map.mpr ⟨_, List.mem_append_right _ (List.mem_append_right _ (List.mem_append_right _ (List.mem_append_right _ (List.mem_append_left _ (List.mem_of_getElem? (i := 10) rfl))))), rfl⟩)) rfl⟩
theorem mk_M_turnsBy : Mok Y_M_turnsBy 6 := ⟨gd_in (in_t7 (List.mem_of_getElem? (i := 104) rfl)) rfl, gd_in (in_t1 (List.mem_of_getElem? (i := 15) rfl)) rfl, by decide, by decide, by decide +kernel⟩
theorem mv_M_turnsBy : MokV Y_M_turnsBy 6 := ⟨mk_M_turnsBy, gd_in (in_t7 (List.mem_of_getElem? (i := 103) rfl)) rfl, gd_in (List.mem_append_left _ (List.mem_map.mpr ⟨_, List.mem_append_right _ (List.mem_append_right _ (List.mem_append_right _ (List.mem_append_right _ (List.mem_append_left _ (List.mem_of_getElem? (i := 11) rfl))))), rfl⟩)) rfl⟩
theorem mk_M_loudestBack : Mok Y_M_loudestBack 0 := ⟨gd_in (in_t7 (List.mem_of_getElem? (i := 108) rfl)) rfl, gd_in (in_t1 (List.mem_of_getElem? (i := 15) rfl)) rfl, by decide, by decide, by decide +kernel⟩
theorem mv_M_loudestBack : MokV Y_M_loudestBack 0 := ⟨mk_M_loudestBack, gd_in (in_t7 (List.mem_of_getElem? (i := 107) rfl)) rfl, gd_in (List.mem_append_left _ (List.mem_map.mpr ⟨_, List.mem_append_right _ (List.mem_append_right _ (List.mem_append_right _ (List.mem_append_right _ (List.mem_append_left _ (List.mem_of_getElem? (i := 12) rfl))))), rfl⟩)) rfl⟩
theorem mk_M_firstSo : Mok Y_M_firstSo 1 := ⟨gd_in (in_t7 (List.mem_of_getElem? (i := 112) rfl)) rfl, gd_in (in_t1 (List.mem_of_getElem? (i := 15) rfl)) rfl, by decide, by decide, by decide +kernel⟩
theorem mv_M_firstSo : MokV Y_M_firstSo 1 := ⟨mk_M_firstSo, gd_in (in_t7 (List.mem_of_getElem? (i := 111) rfl)) rfl, gd_in (List.mem_append_left _ (List.mem_map.mpr ⟨_, List.mem_append_right _ (List.mem_append_right _ (List.mem_append_right _ (List.mem_append_right _ (List.mem_append_left _ (List.mem_of_getElem? (i := 13) rfl))))), rfl⟩)) rfl⟩
theorem mk_M_worth : Mok Y_M_worth 3 := ⟨gd_in (in_t7 (List.mem_of_getElem? (i := 116) rfl)) rfl, gd_in (in_t1 (List.mem_of_getElem? (i := 15) rfl)) rfl, by decide, by decide, by decide +kernel⟩
theorem mv_M_worth : MokV Y_M_worth 3 := ⟨mk_M_worth, gd_in (in_t7 (List.mem_of_getElem? (i := 115) rfl)) rfl, gd_in (List.mem_append_left _ (List.mem_map.mpr ⟨_, List.mem_append_right _ (List.mem_append_right _ (List.mem_append_right _ (List.mem_append_right _ (List.mem_append_left _ (List.mem_of_getElem? (i := 14) rfl))))), rfl⟩)) rfl⟩
theorem mk_M_twoOf : Mok Y_M_twoOf 3 := ⟨gd_in (in_t7 (List.mem_of_getElem? (i := 120) rfl)) rfl, gd_in (in_t1 (List.mem_of_getElem? (i := 15) rfl)) rfl, by decide, by decide, by decide +kernel⟩
theorem mv_M_twoOf : MokV Y_M_twoOf 3 := ⟨mk_M_twoOf, gd_in (in_t7 (List.mem_of_getElem? (i := 119) rfl)) rfl, gd_in (List.mem_append_left _ (List.mem_map.mpr ⟨_, List.mem_append_right _ (List.mem_append_right _ (List.mem_append_right _ (List.mem_append_right _ (List.mem_append_left _ (List.mem_of_getElem? (i := 15) rfl))))), rfl⟩)) rfl⟩
theorem mk_M_story : Mok Y_M_story 2 := ⟨gd_in (in_t7 (List.mem_of_getElem? (i := 124) rfl)) rfl, gd_in (in_t1 (List.mem_of_getElem? (i := 15) rfl)) rfl, by decide, by decide, by decide +kernel⟩
theorem mv_M_story : MokV Y_M_story 2 := ⟨mk_M_story, gd_in (in_t7 (List.mem_of_getElem? (i := 122) rfl)) rfl, gd_in (in_t7 (List.mem_of_getElem? (i := 123) rfl)) rfl⟩
theorem mk_M_stories : Mok Y_M_stories 2 := ⟨gd_in (in_t7 (List.mem_of_getElem? (i := 128) rfl)) rfl, gd_in (in_t1 (List.mem_of_getElem? (i := 15) rfl)) rfl, by decide, by decide, by decide +kernel⟩
theorem mv_M_stories : MokV Y_M_stories 2 := ⟨mk_M_stories, gd_in (in_t7 (List.mem_of_getElem? (i := 126) rfl)) rfl, gd_in (in_t7 (List.mem_of_getElem? (i := 127) rfl)) rfl⟩
theorem mk_M_fitted : Mok Y_M_fitted 2 := ⟨gd_in (in_t7 (List.mem_of_getElem? (i := 132) rfl)) rfl, gd_in (in_t1 (List.mem_of_getElem? (i := 15) rfl)) rfl, by decide, by decide, by decide +kernel⟩
theorem mv_M_fitted : MokV Y_M_fitted 2 := ⟨mk_M_fitted, gd_in (in_t7 (List.mem_of_getElem? (i := 131) rfl)) rfl, gd_in (List.mem_append_left _ (List.mem_map.mpr ⟨_, List.mem_append_right _ (List.mem_append_right _ (List.mem_append_right _ (List.mem_append_right _ (List.mem_append_right _ (List.mem_append_left _ (List.mem_of_getElem? (i := 0) rfl)))))), rfl⟩)) rfl⟩
theorem mk_M_ear : Mok Y_M_ear 1 := ⟨gd_in (in_t7 (List.mem_of_getElem? (i := 136) rfl)) rfl, gd_in (in_t1 (List.mem_of_getElem? (i := 15) rfl)) rfl, by decide, by decide, by decide +kernel⟩
theorem mv_M_ear : MokV Y_M_ear 1 := ⟨mk_M_ear, gd_in (in_t7 (List.mem_of_getElem? (i := 134) rfl)) rfl, gd_in (in_t7 (List.mem_of_getElem? (i := 135) rfl)) rfl⟩
theorem mk_M_got : Mok Y_M_got 3 := ⟨gd_in (in_t7 (List.mem_of_getElem? (i := 140) rfl)) rfl, gd_in (in_t1 (List.mem_of_getElem? (i := 15) rfl)) rfl, by decide, by decide, by decide +kernel⟩
theorem mv_M_got : MokV Y_M_got 3 := ⟨mk_M_got, gd_in (in_t7 (List.mem_of_getElem? (i := 138) rfl)) rfl, gd_in (in_t7 (List.mem_of_getElem? (i := 139) rfl)) rfl⟩
theorem mk_M_from : Mok Y_M_from 1 := ⟨gd_in (in_t7 (List.mem_of_getElem? (i := 145) rfl)) rfl, gd_in (in_t1 (List.mem_of_getElem? (i := 15) rfl)) rfl, by decide, by decide, by decide +kernel⟩
theorem mv_M_from : MokV Y_M_from 1 := ⟨mk_M_from, gd_in (in_t7 (List.mem_of_getElem? (i := 143) rfl)) rfl, gd_in (in_t7 (List.mem_of_getElem? (i := 144) rfl)) rfl⟩
theorem mk_M_isFrom : Mok Y_M_isFrom 1 := ⟨gd_in (in_t7 (List.mem_of_getElem? (i := 149) rfl)) rfl, gd_in (in_t1 (List.mem_of_getElem? (i := 15) rfl)) rfl, by decide, by decide, by decide +kernel⟩
theorem mv_M_isFrom : MokV Y_M_isFrom 1 := ⟨mk_M_isFrom, gd_in (in_t7 (List.mem_of_getElem? (i := 148) rfl)) rfl, gd_in (List.mem_append_left _ (List.mem_map.mpr ⟨_, List.mem_append_right _ (List.mem_append_right _ (List.mem_append_right _ (List.mem_append_right _ (List.mem_append_right _ (List.mem_append_left _ (List.mem_of_getElem? (i := 1) rfl)))))), rfl⟩)) rfl⟩
theorem mk_M_click : Mok Y_M_click 2 := ⟨gd_in (in_t7 (List.mem_of_getElem? (i := 155) rfl)) rfl, gd_in (in_t1 (List.mem_of_getElem? (i := 15) rfl)) rfl, by decide, by decide, by decide +kernel⟩
theorem mv_M_click : MokV Y_M_click 2 := ⟨mk_M_click, gd_in (in_t7 (List.mem_of_getElem? (i := 153) rfl)) rfl, gd_in (in_t7 (List.mem_of_getElem? (i := 154) rfl)) rfl⟩
theorem mk_M_isTape : Mok Y_M_isTape 1 := ⟨gd_in (in_t7 (List.mem_of_getElem? (i := 159) rfl)) rfl, gd_in (in_t1 (List.mem_of_getElem? (i := 15) rfl)) rfl, by decide, by decide, by decide +kernel⟩
theorem mv_M_isTape : MokV Y_M_isTape 1 := ⟨mk_M_isTape, gd_in (in_t7 (List.mem_of_getElem? (i := 158) rfl)) rfl, gd_in (List.mem_append_left _ (List.mem_map.mpr ⟨_, List.mem_append_right _ (List.mem_append_right _ (List.mem_append_right _ (List.mem_append_right _ (List.mem_append_right _ (List.mem_append_left _ (List.mem_of_getElem? (i := 2) rfl)))))), rfl⟩)) rfl⟩
theorem mk_M_fits : Mok Y_M_fits 4 := ⟨gd_in (in_t7 (List.mem_of_getElem? (i := 163) rfl)) rfl, gd_in (in_t1 (List.mem_of_getElem? (i := 15) rfl)) rfl, by decide, by decide, by decide +kernel⟩
theorem mv_M_fits : MokV Y_M_fits 4 := ⟨mk_M_fits, gd_in (in_t7 (List.mem_of_getElem? (i := 161) rfl)) rfl, gd_in (in_t7 (List.mem_of_getElem? (i := 162) rfl)) rfl⟩
theorem mk_M_isCouple : Mok Y_M_isCouple 3 := ⟨gd_in (in_t7 (List.mem_of_getElem? (i := 167) rfl)) rfl, gd_in (in_t1 (List.mem_of_getElem? (i := 15) rfl)) rfl, by decide, by decide, by decide +kernel⟩
theorem mv_M_isCouple : MokV Y_M_isCouple 3 := ⟨mk_M_isCouple, gd_in (in_t7 (List.mem_of_getElem? (i := 166) rfl)) rfl, gd_in (List.mem_append_left _ (List.mem_map.mpr ⟨_, List.mem_append_right _ (List.mem_append_right _ (List.mem_append_right _ (List.mem_append_right _ (List.mem_append_right _ (List.mem_append_left _ (List.mem_of_getElem? (i := 3) rfl)))))), rfl⟩)) rfl⟩
theorem mk_M_isSpot : Mok Y_M_isSpot 1 := ⟨gd_in (in_t7 (List.mem_of_getElem? (i := 171) rfl)) rfl, gd_in (in_t1 (List.mem_of_getElem? (i := 15) rfl)) rfl, by decide, by decide, by decide +kernel⟩
theorem mv_M_isSpot : MokV Y_M_isSpot 1 := ⟨mk_M_isSpot, gd_in (in_t7 (List.mem_of_getElem? (i := 170) rfl)) rfl, gd_in (List.mem_append_left _ (List.mem_map.mpr ⟨_, List.mem_append_right _ (List.mem_append_right _ (List.mem_append_right _ (List.mem_append_right _ (List.mem_append_right _ (List.mem_append_left _ (List.mem_of_getElem? (i := 4) rfl)))))), rfl⟩)) rfl⟩
theorem mk_M_couples : Mok Y_M_couples 3 := ⟨gd_in (in_t7 (List.mem_of_getElem? (i := 175) rfl)) rfl, gd_in (in_t1 (List.mem_of_getElem? (i := 15) rfl)) rfl, by decide, by decide, by decide +kernel⟩
theorem mv_M_couples : MokV Y_M_couples 3 := ⟨mk_M_couples, gd_in (in_t7 (List.mem_of_getElem? (i := 174) rfl)) rfl, gd_in (List.mem_append_left _ (List.mem_map.mpr ⟨_, List.mem_append_right _ (List.mem_append_right _ (List.mem_append_right _ (List.mem_append_right _ (List.mem_append_right _ (List.mem_append_left _ (List.mem_of_getElem? (i := 5) rfl)))))), rfl⟩)) rfl⟩
theorem mk_M_hasClick : Mok Y_M_hasClick 2 := ⟨gd_in (in_t7 (List.mem_of_getElem? (i := 179) rfl)) rfl, gd_in (in_t1 (List.mem_of_getElem? (i := 15) rfl)) rfl, by decide, by decide, by decide +kernel⟩
theorem mv_M_hasClick : MokV Y_M_hasClick 2 := ⟨mk_M_hasClick, gd_in (in_t7 (List.mem_of_getElem? (i := 178) rfl)) rfl, gd_in (List.mem_append_left _ (List.mem_map.mpr ⟨_, List.mem_append_right _ (List.mem_append_right _ (List.mem_append_right _ (List.mem_append_right _ (List.mem_append_right _ (List.mem_append_left _ (List.mem_of_getElem? (i := 6) rfl)))))), rfl⟩)) rfl⟩
theorem mk_M_isNear : Mok Y_M_isNear 2 := ⟨gd_in (in_t7 (List.mem_of_getElem? (i := 183) rfl)) rfl, gd_in (in_t1 (List.mem_of_getElem? (i := 15) rfl)) rfl, by decide, by decide, by decide +kernel⟩
theorem mv_M_isNear : MokV Y_M_isNear 2 := ⟨mk_M_isNear, gd_in (in_t7 (List.mem_of_getElem? (i := 182) rfl)) rfl, gd_in (List.mem_append_left _ (List.mem_map.mpr ⟨_, List.mem_append_right _ (List.mem_append_right _ (List.mem_append_right _ (List.mem_append_right _ (List.mem_append_right _ (List.mem_append_left _ (List.mem_of_getElem? (i := 7) rfl)))))), rfl⟩)) rfl⟩
theorem mk_M_couple : Mok Y_M_couple 2 := ⟨gd_in (in_t7 (List.mem_of_getElem? (i := 187) rfl)) rfl, gd_in (in_t1 (List.mem_of_getElem? (i := 15) rfl)) rfl, by decide, by decide, by decide +kernel⟩
theorem mv_M_couple : MokV Y_M_couple 2 := ⟨mk_M_couple, gd_in (in_t7 (List.mem_of_getElem? (i := 185) rfl)) rfl, gd_in (in_t7 (List.mem_of_getElem? (i := 186) rfl)) rfl⟩
theorem mk_M_must : Mok Y_M_must 3 := ⟨gd_in (in_t7 (List.mem_of_getElem? (i := 191) rfl)) rfl, gd_in (in_t1 (List.mem_of_getElem? (i := 15) rfl)) rfl, by decide, by decide, by decide +kernel⟩
theorem mv_M_must : MokV Y_M_must 3 := ⟨mk_M_must, gd_in (in_t7 (List.mem_of_getElem? (i := 189) rfl)) rfl, gd_in (in_t7 (List.mem_of_getElem? (i := 190) rfl)) rfl⟩
theorem mk_M_explained : Mok Y_M_explained 2 := ⟨gd_in (in_t7 (List.mem_of_getElem? (i := 195) rfl)) rfl, gd_in (in_t1 (List.mem_of_getElem? (i := 15) rfl)) rfl, by decide, by decide, by decide +kernel⟩
theorem mv_M_explained : MokV Y_M_explained 2 := ⟨mk_M_explained, gd_in (in_t7 (List.mem_of_getElem? (i := 194) rfl)) rfl, gd_in (List.mem_append_left _ (List.mem_map.mpr ⟨_, List.mem_append_right _ (List.mem_append_right _ (List.mem_append_right _ (List.mem_append_right _ (List.mem_append_right _ (List.mem_append_left _ (List.mem_of_getElem? (i := 8) rfl)))))), rfl⟩)) rfl⟩
theorem mk_M_ones : Mok Y_M_ones 1 := ⟨gd_in (in_t7 (List.mem_of_getElem? (i := 199) rfl)) rfl, gd_in (in_t1 (List.mem_of_getElem? (i := 15) rfl)) rfl, by decide, by decide, by decide +kernel⟩
theorem mv_M_ones : MokV Y_M_ones 1 := ⟨mk_M_ones, gd_in (in_t7 (List.mem_of_getElem? (i := 198) rfl)) rfl, gd_in (List.mem_append_left _ (List.mem_map.mpr ⟨_, List.mem_append_right _ (List.mem_append_right _ (List.mem_append_right _ (List.mem_append_right _ (List.mem_append_right _ (List.mem_append_left _ (List.mem_of_getElem? (i := 9) rfl)))))), rfl⟩)) rfl⟩
theorem mk_M_voice : Mok Y_M_voice 4 := ⟨gd_in (in_t7 (List.mem_of_getElem? (i := 203) rfl)) rfl, gd_in (in_t1 (List.mem_of_getElem? (i := 15) rfl)) rfl, by decide, by decide, by decide +kernel⟩
theorem mv_M_voice : MokV Y_M_voice 4 := ⟨mk_M_voice, gd_in (in_t7 (List.mem_of_getElem? (i := 201) rfl)) rfl, gd_in (in_t7 (List.mem_of_getElem? (i := 202) rfl)) rfl⟩
theorem mk_M_over : Mok Y_M_over 2 := ⟨gd_in (in_t7 (List.mem_of_getElem? (i := 208) rfl)) rfl, gd_in (in_t1 (List.mem_of_getElem? (i := 15) rfl)) rfl, by decide, by decide, by decide +kernel⟩
theorem mv_M_over : MokV Y_M_over 2 := ⟨mk_M_over, gd_in (in_t7 (List.mem_of_getElem? (i := 206) rfl)) rfl, gd_in (in_t7 (List.mem_of_getElem? (i := 207) rfl)) rfl⟩
theorem mk_M_canBe : Mok Y_M_canBe 2 := ⟨gd_in (in_t7 (List.mem_of_getElem? (i := 212) rfl)) rfl, gd_in (in_t1 (List.mem_of_getElem? (i := 15) rfl)) rfl, by decide, by decide, by decide +kernel⟩
theorem mv_M_canBe : MokV Y_M_canBe 2 := ⟨mk_M_canBe, gd_in (in_t7 (List.mem_of_getElem? (i := 211) rfl)) rfl, gd_in (List.mem_append_left _ (List.mem_map.mpr ⟨_, List.mem_append_right _ (List.mem_append_right _ (List.mem_append_right _ (List.mem_append_right _ (List.mem_append_right _ (List.mem_append_left _ (List.mem_of_getElem? (i := 10) rfl)))))), rfl⟩)) rfl⟩
theorem mk_M_noise : Mok Y_M_noise 4 := ⟨gd_in (in_t7 (List.mem_of_getElem? (i := 216) rfl)) rfl, gd_in (in_t1 (List.mem_of_getElem? (i := 15) rfl)) rfl, by decide, by decide, by decide +kernel⟩
theorem mv_M_noise : MokV Y_M_noise 4 := ⟨mk_M_noise, gd_in (in_t7 (List.mem_of_getElem? (i := 214) rfl)) rfl, gd_in (in_t7 (List.mem_of_getElem? (i := 215) rfl)) rfl⟩
theorem mk_M_noises : Mok Y_M_noises 1 := ⟨gd_in (in_t7 (List.mem_of_getElem? (i := 220) rfl)) rfl, gd_in (in_t1 (List.mem_of_getElem? (i := 15) rfl)) rfl, by decide, by decide, by decide +kernel⟩
theorem mv_M_noises : MokV Y_M_noises 1 := ⟨mk_M_noises, gd_in (in_t7 (List.mem_of_getElem? (i := 218) rfl)) rfl, gd_in (in_t7 (List.mem_of_getElem? (i := 219) rfl)) rfl⟩
theorem mk_M_soundsLike : Mok Y_M_soundsLike 1 := ⟨gd_in (in_t7 (List.mem_of_getElem? (i := 224) rfl)) rfl, gd_in (in_t1 (List.mem_of_getElem? (i := 15) rfl)) rfl, by decide, by decide, by decide +kernel⟩
theorem mv_M_soundsLike : MokV Y_M_soundsLike 1 := ⟨mk_M_soundsLike, gd_in (in_t7 (List.mem_of_getElem? (i := 223) rfl)) rfl, gd_in (List.mem_append_left _ (List.mem_map.mpr ⟨_, List.mem_append_right _ (List.mem_append_right _ (List.mem_append_right _ (List.mem_append_right _ (List.mem_append_right _ (List.mem_append_left _ (List.mem_of_getElem? (i := 11) rfl)))))), rfl⟩)) rfl⟩
theorem mk_M_ball : Mok Y_M_ball 2 := ⟨gd_in (in_t7 (List.mem_of_getElem? (i := 228) rfl)) rfl, gd_in (in_t1 (List.mem_of_getElem? (i := 15) rfl)) rfl, by decide, by decide, by decide +kernel⟩
theorem mv_M_ball : MokV Y_M_ball 2 := ⟨mk_M_ball, gd_in (in_t7 (List.mem_of_getElem? (i := 226) rfl)) rfl, gd_in (in_t7 (List.mem_of_getElem? (i := 227) rfl)) rfl⟩
theorem mk_M_trials : Mok Y_M_trials 1 := ⟨gd_in (in_t7 (List.mem_of_getElem? (i := 232) rfl)) rfl, gd_in (in_t1 (List.mem_of_getElem? (i := 15) rfl)) rfl, by decide, by decide, by decide +kernel⟩
theorem mv_M_trials : MokV Y_M_trials 1 := ⟨mk_M_trials, gd_in (in_t7 (List.mem_of_getElem? (i := 230) rfl)) rfl, gd_in (in_t7 (List.mem_of_getElem? (i := 231) rfl)) rfl⟩
theorem mk_M_parts : Mok Y_M_parts 3 := ⟨gd_in (in_t7 (List.mem_of_getElem? (i := 236) rfl)) rfl, gd_in (in_t1 (List.mem_of_getElem? (i := 15) rfl)) rfl, by decide, by decide, by decide +kernel⟩
theorem mv_M_parts : MokV Y_M_parts 3 := ⟨mk_M_parts, gd_in (in_t7 (List.mem_of_getElem? (i := 235) rfl)) rfl, gd_in (List.mem_append_left _ (List.mem_map.mpr ⟨_, List.mem_append_right _ (List.mem_append_right _ (List.mem_append_right _ (List.mem_append_right _ (List.mem_append_right _ (List.mem_append_left _ (List.mem_of_getElem? (i := 12) rfl)))))), rfl⟩)) rfl⟩
theorem mk_M_there : Mok Y_M_there 0 := ⟨gd_in (in_t8 (List.mem_of_getElem? (i := 0) rfl)) rfl, gd_in (in_t1 (List.mem_of_getElem? (i := 15) rfl)) rfl, by decide, by decide, by decide +kernel⟩
theorem mv_M_there : MokV Y_M_there 0 := ⟨mk_M_there, gd_in (in_t7 (List.mem_of_getElem? (i := 239) rfl)) rfl, gd_in (List.mem_append_left _ (List.mem_map.mpr ⟨_, List.mem_append_right _ (List.mem_append_right _ (List.mem_append_right _ (List.mem_append_right _ (List.mem_append_right _ (List.mem_append_left _ (List.mem_of_getElem? (i := 13) rfl)))))), rfl⟩)) rfl⟩
theorem mk_M_areParted : Mok Y_M_areParted 2 := ⟨gd_in (in_t8 (List.mem_of_getElem? (i := 4) rfl)) rfl, gd_in (in_t1 (List.mem_of_getElem? (i := 15) rfl)) rfl, by decide, by decide, by decide +kernel⟩
theorem mv_M_areParted : MokV Y_M_areParted 2 := ⟨mk_M_areParted, gd_in (in_t8 (List.mem_of_getElem? (i := 3) rfl)) rfl, gd_in (List.mem_append_left _ (List.mem_map.mpr ⟨_, List.mem_append_right _ (List.mem_append_right _ (List.mem_append_right _ (List.mem_append_right _ (List.mem_append_right _ (List.mem_append_left _ (List.mem_of_getElem? (i := 14) rfl)))))), rfl⟩)) rfl⟩
theorem mk_M_apart : Mok Y_M_apart 2 := ⟨gd_in (in_t8 (List.mem_of_getElem? (i := 8) rfl)) rfl, gd_in (in_t1 (List.mem_of_getElem? (i := 15) rfl)) rfl, by decide, by decide, by decide +kernel⟩
theorem mv_M_apart : MokV Y_M_apart 2 := ⟨mk_M_apart, gd_in (in_t8 (List.mem_of_getElem? (i := 6) rfl)) rfl, gd_in (in_t8 (List.mem_of_getElem? (i := 7) rfl)) rfl⟩
theorem mk_M_findsTable : Mok Y_M_findsTable 0 := ⟨gd_in (in_t8 (List.mem_of_getElem? (i := 12) rfl)) rfl, gd_in (in_t1 (List.mem_of_getElem? (i := 15) rfl)) rfl, by decide, by decide, by decide +kernel⟩
theorem mv_M_findsTable : MokV Y_M_findsTable 0 := ⟨mk_M_findsTable, gd_in (in_t8 (List.mem_of_getElem? (i := 11) rfl)) rfl, gd_in (List.mem_append_left _ (List.mem_map.mpr ⟨_, List.mem_append_right _ (List.mem_append_right _ (List.mem_append_right _ (List.mem_append_right _ (List.mem_append_right _ (List.mem_append_left _ (List.mem_of_getElem? (i := 15) rfl)))))), rfl⟩)) rfl⟩
theorem mk_M_apartBy : Mok Y_M_apartBy 2 := ⟨gd_in (in_t8 (List.mem_of_getElem? (i := 16) rfl)) rfl, gd_in (in_t1 (List.mem_of_getElem? (i := 15) rfl)) rfl, by decide, by decide, by decide +kernel⟩
theorem mv_M_apartBy : MokV Y_M_apartBy 2 := ⟨mk_M_apartBy, gd_in (in_t8 (List.mem_of_getElem? (i := 15) rfl)) rfl, gd_in (List.mem_append_left _ (List.mem_map.mpr ⟨_, List.mem_append_right _ (List.mem_append_right _ (List.mem_append_right _ (List.mem_append_right _ (List.mem_append_right _ (List.mem_append_right _ (List.mem_of_getElem? (i := 0) rfl)))))), rfl⟩)) rfl⟩
theorem mk_M_tellsApart : Mok Y_M_tellsApart 4 := ⟨gd_in (in_t8 (List.mem_of_getElem? (i := 20) rfl)) rfl, gd_in (in_t1 (List.mem_of_getElem? (i := 15) rfl)) rfl, by decide, by decide, by decide +kernel⟩
theorem mv_M_tellsApart : MokV Y_M_tellsApart 4 := ⟨mk_M_tellsApart, gd_in (in_t8 (List.mem_of_getElem? (i := 19) rfl)) rfl, gd_in (List.mem_append_left _ (List.mem_map.mpr ⟨_, List.mem_append_right _ (List.mem_append_right _ (List.mem_append_right _ (List.mem_append_right _ (List.mem_append_right _ (List.mem_append_right _ (List.mem_of_getElem? (i := 1) rfl)))))), rfl⟩)) rfl⟩
theorem mk_M_roofs : Mok Y_M_roofs 2 := ⟨gd_in (in_t8 (List.mem_of_getElem? (i := 24) rfl)) rfl, gd_in (in_t1 (List.mem_of_getElem? (i := 15) rfl)) rfl, by decide, by decide, by decide +kernel⟩
theorem mv_M_roofs : MokV Y_M_roofs 2 := ⟨mk_M_roofs, gd_in (in_t8 (List.mem_of_getElem? (i := 22) rfl)) rfl, gd_in (in_t8 (List.mem_of_getElem? (i := 23) rfl)) rfl⟩
theorem mk_M_look : Mok Y_M_look 1 := ⟨gd_in (in_t8 (List.mem_of_getElem? (i := 28) rfl)) rfl, gd_in (in_t1 (List.mem_of_getElem? (i := 15) rfl)) rfl, by decide, by decide, by decide +kernel⟩
theorem mv_M_look : MokV Y_M_look 1 := ⟨mk_M_look, gd_in (in_t8 (List.mem_of_getElem? (i := 26) rfl)) rfl, gd_in (in_t8 (List.mem_of_getElem? (i := 27) rfl)) rfl⟩
theorem ml_B_11 : Cond.methodLink "BangSquare" 11 (mY Y_Sq_init) ∈ gd_tbl := gd_in (in_t1 (List.mem_of_getElem? (i := 34) rfl)) rfl
theorem ml_B_18 : Cond.methodLink "BangSquare" 18 (mY Y_Hd_init) ∈ gd_tbl := gd_in (in_t1 (List.mem_of_getElem? (i := 87) rfl)) rfl
theorem ml_B_29 : Cond.methodLink "BangSquare" 29 (mY Y_Ar_fill) ∈ gd_tbl := gd_in (in_t1 (List.mem_of_getElem? (i := 147) rfl)) rfl
theorem ml_B_51 : Cond.methodLink "BangSquare" 51 (mY Y_Cw_init) ∈ gd_tbl := gd_in (in_t2 (List.mem_of_getElem? (i := 5) rfl)) rfl
theorem ml_B_66 : Cond.methodLink "BangSquare" 66 (mY Y_Sp_init) ∈ gd_tbl := gd_in (in_t2 (List.mem_of_getElem? (i := 64) rfl)) rfl
theorem ml_B_79 : Cond.methodLink "BangSquare" 79 (mY Y_Tp_init) ∈ gd_tbl := gd_in (in_t2 (List.mem_of_getElem? (i := 91) rfl)) rfl
theorem ml_B_88 : Cond.methodLink "BangSquare" 88 (mY Y_Ns_init) ∈ gd_tbl := gd_in (in_t2 (List.mem_of_getElem? (i := 145) rfl)) rfl
theorem ml_B_105 : Cond.methodLink "BangSquare" 105 (mY Y_Rf_init) ∈ gd_tbl := gd_in (in_t2 (List.mem_of_getElem? (i := 177) rfl)) rfl
theorem ml_B_112 : Cond.methodLink "BangSquare" 112 (mY Y_B_within) ∈ gd_tbl := gd_in (in_t3 (List.mem_of_getElem? (i := 14) rfl)) rfl
theorem ml_B_125 : Cond.methodLink "BangSquare" 125 (mY Y_B_isCell) ∈ gd_tbl := gd_in (in_t3 (List.mem_of_getElem? (i := 21) rfl)) rfl
theorem ml_B_129 : Cond.methodLink "BangSquare" 129 (mY Y_Sq_travel) ∈ gd_tbl := gd_in (in_t3 (List.mem_of_getElem? (i := 24) rfl)) rfl
theorem ml_B_133 : Cond.methodLink "BangSquare" 133 (mY Y_B_between) ∈ gd_tbl := gd_in (in_t3 (List.mem_of_getElem? (i := 41) rfl)) rfl
theorem ml_B_136 : Cond.methodLink "BangSquare" 136 (mY Y_B_loudness) ∈ gd_tbl := gd_in (in_t3 (List.mem_of_getElem? (i := 47) rfl)) rfl
theorem ml_B_140 : Cond.methodLink "BangSquare" 140 (mY Y_B_sectorOf) ∈ gd_tbl := gd_in (in_t3 (List.mem_of_getElem? (i := 50) rfl)) rfl
theorem ml_B_150 : Cond.methodLink "BangSquare" 150 (mY Y_Wl_build) ∈ gd_tbl := gd_in (in_t3 (List.mem_of_getElem? (i := 60) rfl)) rfl
theorem ml_B_160 : Cond.methodLink "BangSquare" 160 (mY Y_B_isBall) ∈ gd_tbl := gd_in (in_t3 (List.mem_of_getElem? (i := 73) rfl)) rfl
theorem ml_B_164 : Cond.methodLink "BangSquare" 164 (mY Y_Sh_fire) ∈ gd_tbl := gd_in (in_t3 (List.mem_of_getElem? (i := 76) rfl)) rfl
theorem ml_B_168 : Cond.methodLink "BangSquare" 168 (mY Y_Hd_listen) ∈ gd_tbl := gd_in (in_t3 (List.mem_of_getElem? (i := 84) rfl)) rfl
theorem ml_B_187 : Cond.methodLink "BangSquare" 187 (mY Y_B_getsBack) ∈ gd_tbl := gd_in (in_t3 (List.mem_of_getElem? (i := 126) rfl)) rfl
theorem ml_B_202 : Cond.methodLink "BangSquare" 202 (mY Y_Rd_append) ∈ gd_tbl := gd_in (in_t3 (List.mem_of_getElem? (i := 134) rfl)) rfl
theorem ml_B_205 : Cond.methodLink "BangSquare" 205 (mY Y_Rd_drop) ∈ gd_tbl := gd_in (in_t3 (List.mem_of_getElem? (i := 146) rfl)) rfl
theorem ml_B_212 : Cond.methodLink "BangSquare" 212 (mY Y_Rd_read) ∈ gd_tbl := gd_in (in_t3 (List.mem_of_getElem? (i := 150) rfl)) rfl
theorem ml_B_235 : Cond.methodLink "BangSquare" 235 (mY Y_Cw_attend) ∈ gd_tbl := gd_in (in_t4 (List.mem_of_getElem? (i := 134) rfl)) rfl
theorem ml_B_239 : Cond.methodLink "BangSquare" 239 (mY Y_Cw_sectorBy) ∈ gd_tbl := gd_in (in_t4 (List.mem_of_getElem? (i := 141) rfl)) rfl
theorem ml_B_242 : Cond.methodLink "BangSquare" 242 (mY Y_Cw_countFitting) ∈ gd_tbl := gd_in (in_t4 (List.mem_of_getElem? (i := 169) rfl)) rfl
theorem ml_B_247 : Cond.methodLink "BangSquare" 247 (mY Y_Sp_add) ∈ gd_tbl := gd_in (in_t4 (List.mem_of_getElem? (i := 179) rfl)) rfl
theorem ml_B_258 : Cond.methodLink "BangSquare" 258 (mY Y_B_mayBeFrom) ∈ gd_tbl := gd_in (in_t4 (List.mem_of_getElem? (i := 192) rfl)) rfl
theorem ml_B_264 : Cond.methodLink "BangSquare" 264 (mY Y_Sp_agreeWithout) ∈ gd_tbl := gd_in (in_t4 (List.mem_of_getElem? (i := 196) rfl)) rfl
theorem ml_B_267 : Cond.methodLink "BangSquare" 267 (mY Y_Tp_addClick) ∈ gd_tbl := gd_in (in_t4 (List.mem_of_getElem? (i := 207) rfl)) rfl
theorem ml_B_270 : Cond.methodLink "BangSquare" 270 (mY Y_B_canLay) ∈ gd_tbl := gd_in (in_t4 (List.mem_of_getElem? (i := 215) rfl)) rfl
theorem ml_B_273 : Cond.methodLink "BangSquare" 273 (mY Y_Tp_lay) ∈ gd_tbl := gd_in (in_t4 (List.mem_of_getElem? (i := 223) rfl)) rfl
theorem ml_B_286 : Cond.methodLink "BangSquare" 286 (mY Y_Tp_searchCouple) ∈ gd_tbl := gd_in (in_t5 (List.mem_of_getElem? (i := 2) rfl)) rfl
theorem ml_B_298 : Cond.methodLink "BangSquare" 298 (mY Y_Tp_fewestWalls) ∈ gd_tbl := gd_in (in_t5 (List.mem_of_getElem? (i := 11) rfl)) rfl
theorem ml_B_302 : Cond.methodLink "BangSquare" 302 (mY Y_B_isTold) ∈ gd_tbl := gd_in (in_t4 (List.mem_of_getElem? (i := 219) rfl)) rfl
theorem ml_B_309 : Cond.methodLink "BangSquare" 309 (mY Y_Sp_overAlone) ∈ gd_tbl := gd_in (in_t5 (List.mem_of_getElem? (i := 36) rfl)) rfl
theorem ml_B_313 : Cond.methodLink "BangSquare" 313 (mY Y_Ns_add) ∈ gd_tbl := gd_in (in_t5 (List.mem_of_getElem? (i := 45) rfl)) rfl
theorem ml_B_315 : Cond.methodLink "BangSquare" 315 (mY Y_Ns_countSentWrongly) ∈ gd_tbl := gd_in (in_t5 (List.mem_of_getElem? (i := 53) rfl)) rfl
theorem ml_B_318 : Cond.methodLink "BangSquare" 318 (mY Y_Ns_countMissed) ∈ gd_tbl := gd_in (in_t5 (List.mem_of_getElem? (i := 68) rfl)) rfl
theorem ml_B_322 : Cond.methodLink "BangSquare" 322 (mY Y_Ns_sort) ∈ gd_tbl := gd_in (in_t5 (List.mem_of_getElem? (i := 72) rfl)) rfl
theorem ml_B_328 : Cond.methodLink "BangSquare" 328 (mY Y_B_toldSpots) ∈ gd_tbl := gd_in (in_t5 (List.mem_of_getElem? (i := 81) rfl)) rfl
theorem ml_B_331 : Cond.methodLink "BangSquare" 331 (mY Y_Cw_couplesOf) ∈ gd_tbl := gd_in (in_t5 (List.mem_of_getElem? (i := 85) rfl)) rfl
theorem ml_B_334 : Cond.methodLink "BangSquare" 334 (mY Y_Cw_partedBy) ∈ gd_tbl := gd_in (in_t5 (List.mem_of_getElem? (i := 91) rfl)) rfl
theorem ml_B_338 : Cond.methodLink "BangSquare" 338 (mY Y_B_unionOf) ∈ gd_tbl := gd_in (in_t5 (List.mem_of_getElem? (i := 95) rfl)) rfl
theorem ml_B_342 : Cond.methodLink "BangSquare" 342 (mY Y_B_isFewer) ∈ gd_tbl := gd_in (in_t5 (List.mem_of_getElem? (i := 96) rfl)) rfl
theorem ml_B_345 : Cond.methodLink "BangSquare" 345 (mY Y_Rf_prepare) ∈ gd_tbl := gd_in (in_t5 (List.mem_of_getElem? (i := 101) rfl)) rfl
theorem ml_B_348 : Cond.methodLink "BangSquare" 348 (mY Y_Rf_countApart) ∈ gd_tbl := gd_in (in_t5 (List.mem_of_getElem? (i := 115) rfl)) rfl
theorem ml_B_351 : Cond.methodLink "BangSquare" 351 (mY Y_Ig_bitCount) ∈ gd_tbl := gd_in (in_t5 (List.mem_of_getElem? (i := 21) rfl)) rfl
theorem ml_B_356 : Cond.methodLink "BangSquare" 356 (mY Y_B_column) ∈ gd_tbl := gd_in (in_t3 (List.mem_of_getElem? (i := 44) rfl)) rfl
theorem ml_B_359 : Cond.methodLink "BangSquare" 359 (mY Y_B_row) ∈ gd_tbl := gd_in (in_t3 (List.mem_of_getElem? (i := 45) rfl)) rfl
theorem ml_B_362 : Cond.methodLink "BangSquare" 362 (mY Y_B_distance) ∈ gd_tbl := gd_in (in_t3 (List.mem_of_getElem? (i := 46) rfl)) rfl
theorem ml_B_365 : Cond.methodLink "BangSquare" 365 (mY Y_B_upperSector) ∈ gd_tbl := gd_in (in_t3 (List.mem_of_getElem? (i := 53) rfl)) rfl
theorem ml_Cw_21 : Cond.methodLink "BangSquare$Crowd" 21 (mY Y_Sc_init) ∈ gd_tbl := gd_in (in_t2 (List.mem_of_getElem? (i := 12) rfl)) rfl
theorem ml_Cw_35 : Cond.methodLink "BangSquare$Crowd" 35 (mY Y_Hd_listen) ∈ gd_tbl := gd_in (in_t4 (List.mem_of_getElem? (i := 138) rfl)) rfl
theorem ml_Cw_91 : Cond.methodLink "BangSquare$Crowd" 91 (mY Y_Sc_decide) ∈ gd_tbl := gd_in (in_t4 (List.mem_of_getElem? (i := 145) rfl)) rfl
theorem ml_Cw_98 : Cond.methodLink "BangSquare$Crowd" 98 (mY Y_Cw_attend) ∈ gd_tbl := gd_in (in_t4 (List.mem_of_getElem? (i := 173) rfl)) rfl
theorem ml_Cw_102 : Cond.methodLink "BangSquare$Crowd" 102 (mY Y_Cw_sectorBy) ∈ gd_tbl := gd_in (in_t4 (List.mem_of_getElem? (i := 174) rfl)) rfl
theorem ml_Cw_105 : Cond.methodLink "BangSquare$Crowd" 105 (mY Y_Cw_coupleBit) ∈ gd_tbl := gd_in (in_t5 (List.mem_of_getElem? (i := 88) rfl)) rfl
theorem ml_Hd_41 : Cond.methodLink "BangSquare$Heard" 41 (mY Y_Sq_travel) ∈ gd_tbl := gd_in (in_t3 (List.mem_of_getElem? (i := 89) rfl)) rfl
theorem ml_Hd_61 : Cond.methodLink "BangSquare$Heard" 61 (mY Y_Hd_listenCrack) ∈ gd_tbl := gd_in (in_t3 (List.mem_of_getElem? (i := 90) rfl)) rfl
theorem ml_Hd_65 : Cond.methodLink "BangSquare$Heard" 65 (mY Y_Hd_listenBack) ∈ gd_tbl := gd_in (in_t3 (List.mem_of_getElem? (i := 102) rfl)) rfl
theorem ml_Hd_75 : Cond.methodLink "BangSquare$Heard" 75 (mY Y_Ma_abs) ∈ gd_tbl := gd_in (in_t3 (List.mem_of_getElem? (i := 96) rfl)) rfl
theorem ml_Hd_80 : Cond.methodLink "BangSquare$Heard" 80 (mY Y_Ma_max) ∈ gd_tbl := gd_in (in_t3 (List.mem_of_getElem? (i := 99) rfl)) rfl
theorem ml_Hd_83 : Cond.methodLink "BangSquare$Heard" 83 (mY Y_Ma_floorDiv) ∈ gd_tbl := gd_in (in_t3 (List.mem_of_getElem? (i := 100) rfl)) rfl
theorem ml_Hd_105 : Cond.methodLink "BangSquare$Heard" 105 (mY Y_Wl_crossing) ∈ gd_tbl := gd_in (in_t3 (List.mem_of_getElem? (i := 106) rfl)) rfl
theorem ml_Hd_110 : Cond.methodLink "BangSquare$Heard" 110 (mY Y_Wl_wayBack) ∈ gd_tbl := gd_in (in_t3 (List.mem_of_getElem? (i := 121) rfl)) rfl
theorem ml_Ns_11 : Cond.methodLink "BangSquare$Noises" 11 (mY Y_Sc_init) ∈ gd_tbl := gd_in (in_t2 (List.mem_of_getElem? (i := 150) rfl)) rfl
theorem ml_Ns_38 : Cond.methodLink "BangSquare$Noises" 38 (mY Y_Ma_abs) ∈ gd_tbl := gd_in (in_t5 (List.mem_of_getElem? (i := 61) rfl)) rfl
theorem ml_Ns_44 : Cond.methodLink "BangSquare$Noises" 44 (mY Y_Ns_isAhead) ∈ gd_tbl := gd_in (in_t5 (List.mem_of_getElem? (i := 62) rfl)) rfl
theorem ml_Ns_48 : Cond.methodLink "BangSquare$Noises" 48 (mY Y_Ma_min) ∈ gd_tbl := gd_in (in_t5 (List.mem_of_getElem? (i := 66) rfl)) rfl
theorem ml_Ns_52 : Cond.methodLink "BangSquare$Noises" 52 (mY Y_Sc_decide) ∈ gd_tbl := gd_in (in_t5 (List.mem_of_getElem? (i := 67) rfl)) rfl
theorem ml_Ns_56 : Cond.methodLink "BangSquare$Noises" 56 (mY Y_Ns_sort) ∈ gd_tbl := gd_in (in_t5 (List.mem_of_getElem? (i := 57) rfl)) rfl
theorem ml_Rd_32 : Cond.methodLink "BangSquare$Reader" 32 (mY Y_Rd_start) ∈ gd_tbl := gd_in (in_t3 (List.mem_of_getElem? (i := 154) rfl)) rfl
theorem ml_Rd_36 : Cond.methodLink "BangSquare$Reader" 36 (mY Y_Rd_scan) ∈ gd_tbl := gd_in (in_t3 (List.mem_of_getElem? (i := 158) rfl)) rfl
theorem ml_Rd_45 : Cond.methodLink "BangSquare$Reader" 45 (mY Y_Rd_take) ∈ gd_tbl := gd_in (in_t4 (List.mem_of_getElem? (i := 53) rfl)) rfl
theorem ml_Rd_55 : Cond.methodLink "BangSquare$Reader" 55 (mY Y_Ar_copyOf) ∈ gd_tbl := gd_in (in_t4 (List.mem_of_getElem? (i := 108) rfl)) rfl
theorem ml_Rd_83 : Cond.methodLink "BangSquare$Reader" 83 (mY Y_Rd_byteAt) ∈ gd_tbl := gd_in (in_t3 (List.mem_of_getElem? (i := 162) rfl)) rfl
theorem ml_Rd_87 : Cond.methodLink "BangSquare$Reader" 87 (mY Y_Rd_isLetter) ∈ gd_tbl := gd_in (in_t3 (List.mem_of_getElem? (i := 166) rfl)) rfl
theorem ml_Rd_91 : Cond.methodLink "BangSquare$Reader" 91 (mY Y_Rd_scanWord) ∈ gd_tbl := gd_in (in_t3 (List.mem_of_getElem? (i := 170) rfl)) rfl
theorem ml_Rd_94 : Cond.methodLink "BangSquare$Reader" 94 (mY Y_Rd_isDigit) ∈ gd_tbl := gd_in (in_t3 (List.mem_of_getElem? (i := 228) rfl)) rfl
theorem ml_Rd_97 : Cond.methodLink "BangSquare$Reader" 97 (mY Y_Rd_scanNumber) ∈ gd_tbl := gd_in (in_t3 (List.mem_of_getElem? (i := 231) rfl)) rfl
theorem ml_Rd_102 : Cond.methodLink "BangSquare$Reader" 102 (mY Y_Str_indexOf_0) ∈ gd_tbl := gd_in (in_t3 (List.mem_of_getElem? (i := 236) rfl)) rfl
theorem ml_Rd_111 : Cond.methodLink "BangSquare$Reader" 111 (mY Y_Str_length) ∈ gd_tbl := gd_in (in_t3 (List.mem_of_getElem? (i := 176) rfl)) rfl
theorem ml_Rd_113 : Cond.methodLink "BangSquare$Reader" 113 (mY Y_Rd_isWord) ∈ gd_tbl := gd_in (in_t3 (List.mem_of_getElem? (i := 186) rfl)) rfl
theorem ml_Rd_117 : Cond.methodLink "BangSquare$Reader" 117 (mY Y_Str_charAt) ∈ gd_tbl := gd_in (in_t3 (List.mem_of_getElem? (i := 190) rfl)) rfl
theorem ml_Rd_128 : Cond.methodLink "BangSquare$Reader" 128 (mY Y_Rd_takeLine) ∈ gd_tbl := gd_in (in_t4 (List.mem_of_getElem? (i := 57) rfl)) rfl
theorem ml_Rd_131 : Cond.methodLink "BangSquare$Reader" 131 (mY Y_Rd_takeKind) ∈ gd_tbl := gd_in (in_t4 (List.mem_of_getElem? (i := 61) rfl)) rfl
theorem ml_Rd_134 : Cond.methodLink "BangSquare$Reader" 134 (mY Y_Rd_takeWhen) ∈ gd_tbl := gd_in (in_t4 (List.mem_of_getElem? (i := 65) rfl)) rfl
theorem ml_Rd_137 : Cond.methodLink "BangSquare$Reader" 137 (mY Y_Rd_takeClaim) ∈ gd_tbl := gd_in (in_t4 (List.mem_of_getElem? (i := 69) rfl)) rfl
theorem ml_Rd_140 : Cond.methodLink "BangSquare$Reader" 140 (mY Y_Rd_takeUnit) ∈ gd_tbl := gd_in (in_t4 (List.mem_of_getElem? (i := 73) rfl)) rfl
theorem ml_Rd_143 : Cond.methodLink "BangSquare$Reader" 143 (mY Y_Rd_takePart) ∈ gd_tbl := gd_in (in_t4 (List.mem_of_getElem? (i := 85) rfl)) rfl
theorem ml_Rd_146 : Cond.methodLink "BangSquare$Reader" 146 (mY Y_Rd_takeSign) ∈ gd_tbl := gd_in (in_t4 (List.mem_of_getElem? (i := 89) rfl)) rfl
theorem ml_Rd_149 : Cond.methodLink "BangSquare$Reader" 149 (mY Y_Rd_takeJoint) ∈ gd_tbl := gd_in (in_t4 (List.mem_of_getElem? (i := 100) rfl)) rfl
theorem ml_Rd_158 : Cond.methodLink "BangSquare$Reader" 158 (mY Y_Rd_hold) ∈ gd_tbl := gd_in (in_t4 (List.mem_of_getElem? (i := 81) rfl)) rfl
theorem ml_Rd_162 : Cond.methodLink "BangSquare$Reader" 162 (mY Y_Rd_emit) ∈ gd_tbl := gd_in (in_t4 (List.mem_of_getElem? (i := 77) rfl)) rfl
theorem ml_Rd_166 : Cond.methodLink "BangSquare$Reader" 166 (mY Y_Rd_rank) ∈ gd_tbl := gd_in (in_t4 (List.mem_of_getElem? (i := 93) rfl)) rfl
theorem ml_Rd_169 : Cond.methodLink "BangSquare$Reader" 169 (mY Y_Rd_release) ∈ gd_tbl := gd_in (in_t4 (List.mem_of_getElem? (i := 96) rfl)) rfl
theorem ml_Rd_172 : Cond.methodLink "BangSquare$Reader" 172 (mY Y_Rd_dropBracket) ∈ gd_tbl := gd_in (in_t4 (List.mem_of_getElem? (i := 104) rfl)) rfl
theorem ml_Rf_26 : Cond.methodLink "BangSquare$Roofs" 26 (mY Y_Sq_travel) ∈ gd_tbl := gd_in (in_t5 (List.mem_of_getElem? (i := 105) rfl)) rfl
theorem ml_Rf_32 : Cond.methodLink "BangSquare$Roofs" 32 (mY Y_Rf_apartBy) ∈ gd_tbl := gd_in (in_t5 (List.mem_of_getElem? (i := 106) rfl)) rfl
theorem ml_Rf_36 : Cond.methodLink "BangSquare$Roofs" 36 (mY Y_Rf_later) ∈ gd_tbl := gd_in (in_t5 (List.mem_of_getElem? (i := 110) rfl)) rfl
theorem ml_Rf_40 : Cond.methodLink "BangSquare$Roofs" 40 (mY Y_Ma_abs) ∈ gd_tbl := gd_in (in_t5 (List.mem_of_getElem? (i := 114) rfl)) rfl
theorem ml_Rf_46 : Cond.methodLink "BangSquare$Roofs" 46 (mY Y_Lg_bitCount) ∈ gd_tbl := gd_in (in_t5 (List.mem_of_getElem? (i := 119) rfl)) rfl
theorem ml_Sc_21 : Cond.methodLink "BangSquare$Script" 21 (mY Y_Sc_pop) ∈ gd_tbl := gd_in (in_t4 (List.mem_of_getElem? (i := 150) rfl)) rfl
theorem ml_Sc_25 : Cond.methodLink "BangSquare$Script" 25 (mY Y_Sc_push) ∈ gd_tbl := gd_in (in_t4 (List.mem_of_getElem? (i := 154) rfl)) rfl
theorem ml_Sc_29 : Cond.methodLink "BangSquare$Script" 29 (mY Y_Sc_join) ∈ gd_tbl := gd_in (in_t4 (List.mem_of_getElem? (i := 158) rfl)) rfl
theorem ml_Sp_9 : Cond.methodLink "BangSquare$Spans" 9 (mY Y_Ma_max) ∈ gd_tbl := gd_in (in_t2 (List.mem_of_getElem? (i := 68) rfl)) rfl
theorem ml_Sp_33 : Cond.methodLink "BangSquare$Spans" 33 (mY Y_Ma_min) ∈ gd_tbl := gd_in (in_t4 (List.mem_of_getElem? (i := 202) rfl)) rfl
theorem ml_Sp_36 : Cond.methodLink "BangSquare$Spans" 36 (mY Y_Sp_agreeWithout) ∈ gd_tbl := gd_in (in_t5 (List.mem_of_getElem? (i := 40) rfl)) rfl
theorem ml_Sq_35 : Cond.methodLink "BangSquare$Square" 35 (mY Y_Ma_floorDiv) ∈ gd_tbl := gd_in (in_t3 (List.mem_of_getElem? (i := 34) rfl)) rfl
theorem ml_Sq_44 : Cond.methodLink "BangSquare$Square" 44 (mY Y_Ma_max) ∈ gd_tbl := gd_in (in_t3 (List.mem_of_getElem? (i := 40) rfl)) rfl
theorem ml_Tp_24 : Cond.methodLink "BangSquare$Tape" 24 (mY Y_Sp_init) ∈ gd_tbl := gd_in (in_t2 (List.mem_of_getElem? (i := 96) rfl)) rfl
theorem ml_Tp_45 : Cond.methodLink "BangSquare$Tape" 45 (mY Y_Ma_abs) ∈ gd_tbl := gd_in (in_t4 (List.mem_of_getElem? (i := 237) rfl)) rfl
theorem ml_Tp_59 : Cond.methodLink "BangSquare$Tape" 59 (mY Y_Sh_fire) ∈ gd_tbl := gd_in (in_t4 (List.mem_of_getElem? (i := 227) rfl)) rfl
theorem ml_Tp_63 : Cond.methodLink "BangSquare$Tape" 63 (mY Y_Hd_listen) ∈ gd_tbl := gd_in (in_t4 (List.mem_of_getElem? (i := 228) rfl)) rfl
theorem ml_Tp_79 : Cond.methodLink "BangSquare$Tape" 79 (mY Y_Tp_backPlace) ∈ gd_tbl := gd_in (in_t4 (List.mem_of_getElem? (i := 229) rfl)) rfl
theorem ml_Tp_82 : Cond.methodLink "BangSquare$Tape" 82 (mY Y_Tp_clicksNear) ∈ gd_tbl := gd_in (in_t4 (List.mem_of_getElem? (i := 233) rfl)) rfl
theorem ml_Tp_95 : Cond.methodLink "BangSquare$Tape" 95 (mY Y_Tp_lay) ∈ gd_tbl := gd_in (in_t5 (List.mem_of_getElem? (i := 6) rfl)) rfl
theorem ml_Wl_35 : Cond.methodLink "BangSquare$Wall" 35 (mY Y_Wl_side) ∈ gd_tbl := gd_in (in_t3 (List.mem_of_getElem? (i := 110) rfl)) rfl
theorem ml_Wl_38 : Cond.methodLink "BangSquare$Wall" 38 (mY Y_Ma_abs) ∈ gd_tbl := gd_in (in_t3 (List.mem_of_getElem? (i := 116) rfl)) rfl
theorem ml_Wl_43 : Cond.methodLink "BangSquare$Wall" 43 (mY Y_Wl_along) ∈ gd_tbl := gd_in (in_t3 (List.mem_of_getElem? (i := 117) rfl)) rfl
theorem ml_LAW_9 : Cond.methodLink "BangSquareLaw" 9 (mY Y_B_init) ∈ gd_tbl := gd_in (in_t1 (List.mem_of_getElem? (i := 26) rfl)) rfl
theorem ml_LAW_12 : Cond.methodLink "BangSquareLaw" 12 (mY Y_M_init) ∈ gd_tbl := gd_in (in_t5 (List.mem_of_getElem? (i := 135) rfl)) rfl
theorem ml_LAW_13 : Cond.methodLink "BangSquareLaw" 13 (mY Y_B_set) ∈ gd_tbl := gd_in (in_t3 (List.mem_of_getElem? (i := 10) rfl)) rfl
theorem ml_LAW_17 : Cond.methodLink "BangSquareLaw" 17 (mY Y_M_set) ∈ gd_tbl := gd_in (in_t6 (List.mem_of_getElem? (i := 123) rfl)) rfl
theorem ml_LAW_18 : Cond.methodLink "BangSquareLaw" 18 (mY Y_B_comes) ∈ gd_tbl := gd_in (in_t3 (List.mem_of_getElem? (i := 17) rfl)) rfl
theorem ml_LAW_22 : Cond.methodLink "BangSquareLaw" 22 (mY Y_M_comes) ∈ gd_tbl := gd_in (in_t6 (List.mem_of_getElem? (i := 131) rfl)) rfl
theorem ml_LAW_23 : Cond.methodLink "BangSquareLaw" 23 (mY Y_B_wall) ∈ gd_tbl := gd_in (in_t3 (List.mem_of_getElem? (i := 56) rfl)) rfl
theorem ml_LAW_27 : Cond.methodLink "BangSquareLaw" 27 (mY Y_M_wall) ∈ gd_tbl := gd_in (in_t6 (List.mem_of_getElem? (i := 175) rfl)) rfl
theorem ml_LAW_28 : Cond.methodLink "BangSquareLaw" 28 (mY Y_B_spot) ∈ gd_tbl := gd_in (in_t3 (List.mem_of_getElem? (i := 64) rfl)) rfl
theorem ml_LAW_31 : Cond.methodLink "BangSquareLaw" 31 (mY Y_M_spot) ∈ gd_tbl := gd_in (in_t6 (List.mem_of_getElem? (i := 183) rfl)) rfl
theorem ml_LAW_32 : Cond.methodLink "BangSquareLaw" 32 (mY Y_B_shot) ∈ gd_tbl := gd_in (in_t3 (List.mem_of_getElem? (i := 68) rfl)) rfl
theorem ml_LAW_36 : Cond.methodLink "BangSquareLaw" 36 (mY Y_M_shot) ∈ gd_tbl := gd_in (in_t6 (List.mem_of_getElem? (i := 187) rfl)) rfl
theorem ml_LAW_37 : Cond.methodLink "BangSquareLaw" 37 (mY Y_B_gets) ∈ gd_tbl := gd_in (in_t3 (List.mem_of_getElem? (i := 80) rfl)) rfl
theorem ml_LAW_40 : Cond.methodLink "BangSquareLaw" 40 (mY Y_M_gets) ∈ gd_tbl := gd_in (in_t6 (List.mem_of_getElem? (i := 192) rfl)) rfl
theorem ml_LAW_41 : Cond.methodLink "BangSquareLaw" 41 (mY Y_B_feed) ∈ gd_tbl := gd_in (in_t3 (List.mem_of_getElem? (i := 130) rfl)) rfl
theorem ml_LAW_45 : Cond.methodLink "BangSquareLaw" 45 (mY Y_M_feed) ∈ gd_tbl := gd_in (in_t6 (List.mem_of_getElem? (i := 220) rfl)) rfl
theorem ml_LAW_46 : Cond.methodLink "BangSquareLaw" 46 (mY Y_B_end) ∈ gd_tbl := gd_in (in_t3 (List.mem_of_getElem? (i := 138) rfl)) rfl
theorem ml_LAW_50 : Cond.methodLink "BangSquareLaw" 50 (mY Y_M_end) ∈ gd_tbl := gd_in (in_t6 (List.mem_of_getElem? (i := 228) rfl)) rfl
theorem ml_LAW_51 : Cond.methodLink "BangSquareLaw" 51 (mY Y_B_text) ∈ gd_tbl := gd_in (in_t3 (List.mem_of_getElem? (i := 142) rfl)) rfl
theorem ml_LAW_55 : Cond.methodLink "BangSquareLaw" 55 (mY Y_M_text) ∈ gd_tbl := gd_in (in_t6 (List.mem_of_getElem? (i := 232) rfl)) rfl
theorem ml_LAW_56 : Cond.methodLink "BangSquareLaw" 56 (mY Y_B_fault) ∈ gd_tbl := gd_in (in_t4 (List.mem_of_getElem? (i := 122) rfl)) rfl
theorem ml_LAW_59 : Cond.methodLink "BangSquareLaw" 59 (mY Y_M_fault) ∈ gd_tbl := gd_in (in_t7 (List.mem_of_getElem? (i := 81) rfl)) rfl
theorem ml_LAW_60 : Cond.methodLink "BangSquareLaw" 60 (mY Y_B_hearer) ∈ gd_tbl := gd_in (in_t4 (List.mem_of_getElem? (i := 126) rfl)) rfl
theorem ml_LAW_64 : Cond.methodLink "BangSquareLaw" 64 (mY Y_M_hearer) ∈ gd_tbl := gd_in (in_t7 (List.mem_of_getElem? (i := 85) rfl)) rfl
theorem ml_LAW_65 : Cond.methodLink "BangSquareLaw" 65 (mY Y_B_turning) ∈ gd_tbl := gd_in (in_t4 (List.mem_of_getElem? (i := 130) rfl)) rfl
theorem ml_LAW_68 : Cond.methodLink "BangSquareLaw" 68 (mY Y_M_turning) ∈ gd_tbl := gd_in (in_t7 (List.mem_of_getElem? (i := 89) rfl)) rfl
theorem ml_LAW_69 : Cond.methodLink "BangSquareLaw" 69 (mY Y_B_story) ∈ gd_tbl := gd_in (in_t4 (List.mem_of_getElem? (i := 161) rfl)) rfl
theorem ml_LAW_72 : Cond.methodLink "BangSquareLaw" 72 (mY Y_M_story) ∈ gd_tbl := gd_in (in_t7 (List.mem_of_getElem? (i := 121) rfl)) rfl
theorem ml_LAW_73 : Cond.methodLink "BangSquareLaw" 73 (mY Y_B_stories) ∈ gd_tbl := gd_in (in_t4 (List.mem_of_getElem? (i := 165) rfl)) rfl
theorem ml_LAW_76 : Cond.methodLink "BangSquareLaw" 76 (mY Y_M_stories) ∈ gd_tbl := gd_in (in_t7 (List.mem_of_getElem? (i := 125) rfl)) rfl
theorem ml_LAW_77 : Cond.methodLink "BangSquareLaw" 77 (mY Y_B_ear) ∈ gd_tbl := gd_in (in_t4 (List.mem_of_getElem? (i := 175) rfl)) rfl
theorem ml_LAW_80 : Cond.methodLink "BangSquareLaw" 80 (mY Y_M_ear) ∈ gd_tbl := gd_in (in_t7 (List.mem_of_getElem? (i := 133) rfl)) rfl
theorem ml_LAW_81 : Cond.methodLink "BangSquareLaw" 81 (mY Y_B_got) ∈ gd_tbl := gd_in (in_t4 (List.mem_of_getElem? (i := 183) rfl)) rfl
theorem ml_LAW_85 : Cond.methodLink "BangSquareLaw" 85 (mY Y_M_got) ∈ gd_tbl := gd_in (in_t7 (List.mem_of_getElem? (i := 137) rfl)) rfl
theorem ml_LAW_86 : Cond.methodLink "BangSquareLaw" 86 (mY Y_B_from) ∈ gd_tbl := gd_in (in_t4 (List.mem_of_getElem? (i := 188) rfl)) rfl
theorem ml_LAW_89 : Cond.methodLink "BangSquareLaw" 89 (mY Y_M_from) ∈ gd_tbl := gd_in (in_t7 (List.mem_of_getElem? (i := 142) rfl)) rfl
theorem ml_LAW_90 : Cond.methodLink "BangSquareLaw" 90 (mY Y_B_click) ∈ gd_tbl := gd_in (in_t4 (List.mem_of_getElem? (i := 203) rfl)) rfl
theorem ml_LAW_93 : Cond.methodLink "BangSquareLaw" 93 (mY Y_M_click) ∈ gd_tbl := gd_in (in_t7 (List.mem_of_getElem? (i := 152) rfl)) rfl
theorem ml_LAW_94 : Cond.methodLink "BangSquareLaw" 94 (mY Y_B_fits) ∈ gd_tbl := gd_in (in_t4 (List.mem_of_getElem? (i := 211) rfl)) rfl
theorem ml_LAW_97 : Cond.methodLink "BangSquareLaw" 97 (mY Y_M_fits) ∈ gd_tbl := gd_in (in_t7 (List.mem_of_getElem? (i := 160) rfl)) rfl
theorem ml_LAW_98 : Cond.methodLink "BangSquareLaw" 98 (mY Y_B_couple) ∈ gd_tbl := gd_in (in_t4 (List.mem_of_getElem? (i := 238) rfl)) rfl
theorem ml_LAW_101 : Cond.methodLink "BangSquareLaw" 101 (mY Y_M_couple) ∈ gd_tbl := gd_in (in_t7 (List.mem_of_getElem? (i := 184) rfl)) rfl
theorem ml_LAW_102 : Cond.methodLink "BangSquareLaw" 102 (mY Y_B_must) ∈ gd_tbl := gd_in (in_t5 (List.mem_of_getElem? (i := 7) rfl)) rfl
theorem ml_LAW_105 : Cond.methodLink "BangSquareLaw" 105 (mY Y_M_must) ∈ gd_tbl := gd_in (in_t7 (List.mem_of_getElem? (i := 188) rfl)) rfl
theorem ml_LAW_106 : Cond.methodLink "BangSquareLaw" 106 (mY Y_B_voice) ∈ gd_tbl := gd_in (in_t5 (List.mem_of_getElem? (i := 27) rfl)) rfl
theorem ml_LAW_109 : Cond.methodLink "BangSquareLaw" 109 (mY Y_M_voice) ∈ gd_tbl := gd_in (in_t7 (List.mem_of_getElem? (i := 200) rfl)) rfl
theorem ml_LAW_110 : Cond.methodLink "BangSquareLaw" 110 (mY Y_B_over) ∈ gd_tbl := gd_in (in_t5 (List.mem_of_getElem? (i := 32) rfl)) rfl
theorem ml_LAW_113 : Cond.methodLink "BangSquareLaw" 113 (mY Y_M_over) ∈ gd_tbl := gd_in (in_t7 (List.mem_of_getElem? (i := 205) rfl)) rfl
theorem ml_LAW_114 : Cond.methodLink "BangSquareLaw" 114 (mY Y_B_noise) ∈ gd_tbl := gd_in (in_t5 (List.mem_of_getElem? (i := 41) rfl)) rfl
theorem ml_LAW_117 : Cond.methodLink "BangSquareLaw" 117 (mY Y_M_noise) ∈ gd_tbl := gd_in (in_t7 (List.mem_of_getElem? (i := 213) rfl)) rfl
theorem ml_LAW_118 : Cond.methodLink "BangSquareLaw" 118 (mY Y_B_noises) ∈ gd_tbl := gd_in (in_t5 (List.mem_of_getElem? (i := 49) rfl)) rfl
theorem ml_LAW_121 : Cond.methodLink "BangSquareLaw" 121 (mY Y_M_noises) ∈ gd_tbl := gd_in (in_t7 (List.mem_of_getElem? (i := 217) rfl)) rfl
theorem ml_LAW_122 : Cond.methodLink "BangSquareLaw" 122 (mY Y_B_ball) ∈ gd_tbl := gd_in (in_t5 (List.mem_of_getElem? (i := 73) rfl)) rfl
theorem ml_LAW_125 : Cond.methodLink "BangSquareLaw" 125 (mY Y_M_ball) ∈ gd_tbl := gd_in (in_t7 (List.mem_of_getElem? (i := 225) rfl)) rfl
theorem ml_LAW_126 : Cond.methodLink "BangSquareLaw" 126 (mY Y_B_trials) ∈ gd_tbl := gd_in (in_t5 (List.mem_of_getElem? (i := 77) rfl)) rfl
theorem ml_LAW_129 : Cond.methodLink "BangSquareLaw" 129 (mY Y_M_trials) ∈ gd_tbl := gd_in (in_t7 (List.mem_of_getElem? (i := 229) rfl)) rfl
theorem ml_LAW_130 : Cond.methodLink "BangSquareLaw" 130 (mY Y_B_apart) ∈ gd_tbl := gd_in (in_t5 (List.mem_of_getElem? (i := 97) rfl)) rfl
theorem ml_LAW_133 : Cond.methodLink "BangSquareLaw" 133 (mY Y_M_apart) ∈ gd_tbl := gd_in (in_t8 (List.mem_of_getElem? (i := 5) rfl)) rfl
theorem ml_LAW_134 : Cond.methodLink "BangSquareLaw" 134 (mY Y_B_roofs) ∈ gd_tbl := gd_in (in_t5 (List.mem_of_getElem? (i := 125) rfl)) rfl
theorem ml_LAW_137 : Cond.methodLink "BangSquareLaw" 137 (mY Y_M_roofs) ∈ gd_tbl := gd_in (in_t8 (List.mem_of_getElem? (i := 21) rfl)) rfl
theorem ml_LAW_138 : Cond.methodLink "BangSquareLaw" 138 (mY Y_B_look) ∈ gd_tbl := gd_in (in_t5 (List.mem_of_getElem? (i := 129) rfl)) rfl
theorem ml_LAW_141 : Cond.methodLink "BangSquareLaw" 141 (mY Y_M_look) ∈ gd_tbl := gd_in (in_t8 (List.mem_of_getElem? (i := 25) rfl)) rfl
theorem ml_M_153 : Cond.methodLink "BangSquareModel" 153 (mY Y_M_isIn) ∈ gd_tbl := gd_in (in_t6 (List.mem_of_getElem? (i := 127) rfl)) rfl
theorem ml_M_157 : Cond.methodLink "BangSquareModel" 157 (mY Y_M_root) ∈ gd_tbl := gd_in (in_t6 (List.mem_of_getElem? (i := 147) rfl)) rfl
theorem ml_M_167 : Cond.methodLink "BangSquareModel" 167 (mY Y_M_distance) ∈ gd_tbl := gd_in (in_t6 (List.mem_of_getElem? (i := 143) rfl)) rfl
theorem ml_M_171 : Cond.methodLink "BangSquareModel" 171 (mY Y_M_floor) ∈ gd_tbl := gd_in (in_t6 (List.mem_of_getElem? (i := 151) rfl)) rfl
theorem ml_M_174 : Cond.methodLink "BangSquareModel" 174 (mY Y_M_sectorUp) ∈ gd_tbl := gd_in (in_t6 (List.mem_of_getElem? (i := 171) rfl)) rfl
theorem ml_M_177 : Cond.methodLink "BangSquareModel" 177 (mY Y_M_sectorBy) ∈ gd_tbl := gd_in (in_t6 (List.mem_of_getElem? (i := 167) rfl)) rfl
theorem ml_M_180 : Cond.methodLink "BangSquareModel" 180 (mY Y_M_isCell) ∈ gd_tbl := gd_in (in_t6 (List.mem_of_getElem? (i := 135) rfl)) rfl
theorem ml_M_184 : Cond.methodLink "BangSquareModel" 184 (mY Y_M_delay) ∈ gd_tbl := gd_in (in_t6 (List.mem_of_getElem? (i := 139) rfl)) rfl
theorem ml_M_187 : Cond.methodLink "BangSquareModel" 187 (mY Y_M_apartOf) ∈ gd_tbl := gd_in (in_t6 (List.mem_of_getElem? (i := 155) rfl)) rfl
theorem ml_M_190 : Cond.methodLink "BangSquareModel" 190 (mY Y_M_loudBy) ∈ gd_tbl := gd_in (in_t6 (List.mem_of_getElem? (i := 159) rfl)) rfl
theorem ml_M_193 : Cond.methodLink "BangSquareModel" 193 (mY Y_M_sectorOf) ∈ gd_tbl := gd_in (in_t6 (List.mem_of_getElem? (i := 163) rfl)) rfl
theorem ml_M_196 : Cond.methodLink "BangSquareModel" 196 (mY Y_M_isSide) ∈ gd_tbl := gd_in (in_t6 (List.mem_of_getElem? (i := 179) rfl)) rfl
theorem ml_M_215 : Cond.methodLink "BangSquareModel" 215 (mY Y_M_size) ∈ gd_tbl := gd_in (in_t6 (List.mem_of_getElem? (i := 212) rfl)) rfl
theorem ml_M_227 : Cond.methodLink "BangSquareModel" 227 (mY Y_M_findsCrack) ∈ gd_tbl := gd_in (in_t6 (List.mem_of_getElem? (i := 208) rfl)) rfl
theorem ml_M_231 : Cond.methodLink "BangSquareModel" 231 (mY Y_M_findsBack) ∈ gd_tbl := gd_in (in_t6 (List.mem_of_getElem? (i := 216) rfl)) rfl
theorem ml_M_235 : Cond.methodLink "BangSquareModel" 235 (mY Y_M_hears) ∈ gd_tbl := gd_in (in_t6 (List.mem_of_getElem? (i := 204) rfl)) rfl
theorem ml_M_238 : Cond.methodLink "BangSquareModel" 238 (mY Y_M_isShot) ∈ gd_tbl := gd_in (in_t6 (List.mem_of_getElem? (i := 196) rfl)) rfl
theorem ml_M_241 : Cond.methodLink "BangSquareModel" 241 (mY Y_M_hearsShot) ∈ gd_tbl := gd_in (in_t6 (List.mem_of_getElem? (i := 200) rfl)) rfl
theorem ml_M_248 : Cond.methodLink "BangSquareModel" 248 (mY Y_M_puts) ∈ gd_tbl := gd_in (in_t6 (List.mem_of_getElem? (i := 224) rfl)) rfl
theorem ml_M_255 : Cond.methodLink "BangSquareModel" 255 (mY Y_M_raw) ∈ gd_tbl := gd_in (in_t7 (List.mem_of_getElem? (i := 4) rfl)) rfl
theorem ml_M_267 : Cond.methodLink "BangSquareModel" 267 (mY Y_M_isLetter) ∈ gd_tbl := gd_in (in_t7 (List.mem_of_getElem? (i := 8) rfl)) rfl
theorem ml_M_270 : Cond.methodLink "BangSquareModel" 270 (mY Y_M_wordAt) ∈ gd_tbl := gd_in (in_t7 (List.mem_of_getElem? (i := 12) rfl)) rfl
theorem ml_M_273 : Cond.methodLink "BangSquareModel" 273 (mY Y_M_isDigit) ∈ gd_tbl := gd_in (in_t7 (List.mem_of_getElem? (i := 16) rfl)) rfl
theorem ml_M_277 : Cond.methodLink "BangSquareModel" 277 (mY Y_M_isMarkSign) ∈ gd_tbl := gd_in (in_t7 (List.mem_of_getElem? (i := 21) rfl)) rfl
theorem ml_M_293 : Cond.methodLink "BangSquareModel" 293 (mY Y_M_askedBy) ∈ gd_tbl := gd_in (in_t7 (List.mem_of_getElem? (i := 69) rfl)) rfl
theorem ml_M_297 : Cond.methodLink "BangSquareModel" 297 (mY Y_M_fails) ∈ gd_tbl := gd_in (in_t7 (List.mem_of_getElem? (i := 29) rfl)) rfl
theorem ml_M_300 : Cond.methodLink "BangSquareModel" 300 (mY Y_M_emits) ∈ gd_tbl := gd_in (in_t7 (List.mem_of_getElem? (i := 73) rfl)) rfl
theorem ml_M_303 : Cond.methodLink "BangSquareModel" 303 (mY Y_M_reads) ∈ gd_tbl := gd_in (in_t7 (List.mem_of_getElem? (i := 0) rfl)) rfl
theorem ml_M_306 : Cond.methodLink "BangSquareModel" 306 (mY Y_M_readUnit) ∈ gd_tbl := gd_in (in_t7 (List.mem_of_getElem? (i := 65) rfl)) rfl
theorem ml_M_309 : Cond.methodLink "BangSquareModel" 309 (mY Y_M_isSign) ∈ gd_tbl := gd_in (in_t7 (List.mem_of_getElem? (i := 45) rfl)) rfl
theorem ml_M_312 : Cond.methodLink "BangSquareModel" 312 (mY Y_M_readProduct) ∈ gd_tbl := gd_in (in_t7 (List.mem_of_getElem? (i := 61) rfl)) rfl
theorem ml_M_315 : Cond.methodLink "BangSquareModel" 315 (mY Y_M_readSum) ∈ gd_tbl := gd_in (in_t7 (List.mem_of_getElem? (i := 57) rfl)) rfl
theorem ml_M_324 : Cond.methodLink "BangSquareModel" 324 (mY Y_M_isWord) ∈ gd_tbl := gd_in (in_t7 (List.mem_of_getElem? (i := 37) rfl)) rfl
theorem ml_M_327 : Cond.methodLink "BangSquareModel" 327 (mY Y_M_waits) ∈ gd_tbl := gd_in (in_t7 (List.mem_of_getElem? (i := 49) rfl)) rfl
theorem ml_M_330 : Cond.methodLink "BangSquareModel" 330 (mY Y_M_readCompared) ∈ gd_tbl := gd_in (in_t7 (List.mem_of_getElem? (i := 53) rfl)) rfl
theorem ml_M_333 : Cond.methodLink "BangSquareModel" 333 (mY Y_M_settles) ∈ gd_tbl := gd_in (in_t7 (List.mem_of_getElem? (i := 77) rfl)) rfl
theorem ml_M_336 : Cond.methodLink "BangSquareModel" 336 (mY Y_M_readAny) ∈ gd_tbl := gd_in (in_t7 (List.mem_of_getElem? (i := 41) rfl)) rfl
theorem ml_M_339 : Cond.methodLink "BangSquareModel" 339 (mY Y_M_isBegin) ∈ gd_tbl := gd_in (in_t7 (List.mem_of_getElem? (i := 25) rfl)) rfl
theorem ml_M_343 : Cond.methodLink "BangSquareModel" 343 (mY Y_M_readLine) ∈ gd_tbl := gd_in (in_t7 (List.mem_of_getElem? (i := 33) rfl)) rfl
theorem ml_M_349 : Cond.methodLink "BangSquareModel" 349 (mY Y_M_readText) ∈ gd_tbl := gd_in (in_t6 (List.mem_of_getElem? (i := 236) rfl)) rfl
theorem ml_M_352 : Cond.methodLink "BangSquareModel" 352 (mY Y_M_twoOf) ∈ gd_tbl := gd_in (in_t7 (List.mem_of_getElem? (i := 117) rfl)) rfl
theorem ml_M_356 : Cond.methodLink "BangSquareModel" 356 (mY Y_M_worth) ∈ gd_tbl := gd_in (in_t7 (List.mem_of_getElem? (i := 113) rfl)) rfl
theorem ml_M_362 : Cond.methodLink "BangSquareModel" 362 (mY Y_M_loudestBack) ∈ gd_tbl := gd_in (in_t7 (List.mem_of_getElem? (i := 105) rfl)) rfl
theorem ml_M_365 : Cond.methodLink "BangSquareModel" 365 (mY Y_M_firstSo) ∈ gd_tbl := gd_in (in_t7 (List.mem_of_getElem? (i := 109) rfl)) rfl
theorem ml_M_368 : Cond.methodLink "BangSquareModel" 368 (mY Y_M_turnsBy) ∈ gd_tbl := gd_in (in_t7 (List.mem_of_getElem? (i := 101) rfl)) rfl
theorem ml_M_372 : Cond.methodLink "BangSquareModel" 372 (mY Y_M_isLaw) ∈ gd_tbl := gd_in (in_t7 (List.mem_of_getElem? (i := 93) rfl)) rfl
theorem ml_M_375 : Cond.methodLink "BangSquareModel" 375 (mY Y_M_turnsOf) ∈ gd_tbl := gd_in (in_t7 (List.mem_of_getElem? (i := 97) rfl)) rfl
theorem ml_M_378 : Cond.methodLink "BangSquareModel" 378 (mY Y_M_fitted) ∈ gd_tbl := gd_in (in_t7 (List.mem_of_getElem? (i := 129) rfl)) rfl
theorem ml_M_387 : Cond.methodLink "BangSquareModel" 387 (mY Y_M_isFrom) ∈ gd_tbl := gd_in (in_t7 (List.mem_of_getElem? (i := 146) rfl)) rfl
theorem ml_M_390 : Cond.methodLink "BangSquareModel" 390 (mY Y_M_isTape) ∈ gd_tbl := gd_in (in_t7 (List.mem_of_getElem? (i := 156) rfl)) rfl
theorem ml_M_393 : Cond.methodLink "BangSquareModel" 393 (mY Y_M_isNear) ∈ gd_tbl := gd_in (in_t7 (List.mem_of_getElem? (i := 180) rfl)) rfl
theorem ml_M_397 : Cond.methodLink "BangSquareModel" 397 (mY Y_M_hasClick) ∈ gd_tbl := gd_in (in_t7 (List.mem_of_getElem? (i := 176) rfl)) rfl
theorem ml_M_406 : Cond.methodLink "BangSquareModel" 406 (mY Y_M_isSpot) ∈ gd_tbl := gd_in (in_t7 (List.mem_of_getElem? (i := 168) rfl)) rfl
theorem ml_M_409 : Cond.methodLink "BangSquareModel" 409 (mY Y_M_isCouple) ∈ gd_tbl := gd_in (in_t7 (List.mem_of_getElem? (i := 164) rfl)) rfl
theorem ml_M_412 : Cond.methodLink "BangSquareModel" 412 (mY Y_M_couples) ∈ gd_tbl := gd_in (in_t7 (List.mem_of_getElem? (i := 172) rfl)) rfl
theorem ml_M_416 : Cond.methodLink "BangSquareModel" 416 (mY Y_M_explained) ∈ gd_tbl := gd_in (in_t7 (List.mem_of_getElem? (i := 192) rfl)) rfl
theorem ml_M_419 : Cond.methodLink "BangSquareModel" 419 (mY Y_M_ones) ∈ gd_tbl := gd_in (in_t7 (List.mem_of_getElem? (i := 196) rfl)) rfl
theorem ml_M_423 : Cond.methodLink "BangSquareModel" 423 (mY Y_M_canBe) ∈ gd_tbl := gd_in (in_t7 (List.mem_of_getElem? (i := 209) rfl)) rfl
theorem ml_M_429 : Cond.methodLink "BangSquareModel" 429 (mY Y_M_soundsLike) ∈ gd_tbl := gd_in (in_t7 (List.mem_of_getElem? (i := 221) rfl)) rfl
theorem ml_M_432 : Cond.methodLink "BangSquareModel" 432 (mY Y_M_parts) ∈ gd_tbl := gd_in (in_t7 (List.mem_of_getElem? (i := 233) rfl)) rfl
theorem ml_M_435 : Cond.methodLink "BangSquareModel" 435 (mY Y_M_there) ∈ gd_tbl := gd_in (in_t7 (List.mem_of_getElem? (i := 237) rfl)) rfl
theorem ml_M_438 : Cond.methodLink "BangSquareModel" 438 (mY Y_M_areParted) ∈ gd_tbl := gd_in (in_t8 (List.mem_of_getElem? (i := 1) rfl)) rfl
theorem ml_M_441 : Cond.methodLink "BangSquareModel" 441 (mY Y_M_tellsApart) ∈ gd_tbl := gd_in (in_t8 (List.mem_of_getElem? (i := 17) rfl)) rfl
theorem ml_M_445 : Cond.methodLink "BangSquareModel" 445 (mY Y_M_findsTable) ∈ gd_tbl := gd_in (in_t8 (List.mem_of_getElem? (i := 9) rfl)) rfl
theorem ml_M_448 : Cond.methodLink "BangSquareModel" 448 (mY Y_M_apartBy) ∈ gd_tbl := gd_in (in_t8 (List.mem_of_getElem? (i := 13) rfl)) rfl
theorem ml_Str_335 : Cond.methodLink "java/lang/String" 335 (mY Y_Str_coder) ∈ gd_tbl := gd_in (in_t3 (List.mem_of_getElem? (i := 180) rfl)) rfl
theorem ml_Str_492 : Cond.methodLink "java/lang/String" 492 (mY Y_Str_isLatin1) ∈ gd_tbl := gd_in (in_t3 (List.mem_of_getElem? (i := 194) rfl)) rfl
theorem ml_Str_495 : Cond.methodLink "java/lang/String" 495 (mY Y_SL_charAt) ∈ gd_tbl := gd_in (in_t3 (List.mem_of_getElem? (i := 198) rfl)) rfl
theorem ml_Str_505 : Cond.methodLink "java/lang/String" 505 (mY Y_Str_length) ∈ gd_tbl := gd_in (in_t4 (List.mem_of_getElem? (i := 4) rfl)) rfl
theorem ml_Str_633 : Cond.methodLink "java/lang/String" 633 (mY Y_Str_indexOf_1) ∈ gd_tbl := gd_in (in_t4 (List.mem_of_getElem? (i := 0) rfl)) rfl
theorem ml_Str_637 : Cond.methodLink "java/lang/String" 637 (mY Y_SL_indexOf) ∈ gd_tbl := gd_in (in_t4 (List.mem_of_getElem? (i := 5) rfl)) rfl
theorem ml_Str_1059 : Cond.methodLink "java/lang/String" 1059 (mY Y_Pre_checkIndex) ∈ gd_tbl := gd_in (in_t3 (List.mem_of_getElem? (i := 206) rfl)) rfl
theorem ml_Str_1062 : Cond.methodLink "java/lang/String" 1062 (mY Y_Pre_checkFromToIndex) ∈ gd_tbl := gd_in (in_t4 (List.mem_of_getElem? (i := 33) rfl)) rfl
theorem ml_SL_9 : Cond.methodLink "java/lang/StringLatin1" 9 (mY Y_Str_checkIndex) ∈ gd_tbl := gd_in (in_t3 (List.mem_of_getElem? (i := 201) rfl)) rfl
theorem ml_SL_38 : Cond.methodLink "java/lang/StringLatin1" 38 (mY Y_Ma_min) ∈ gd_tbl := gd_in (in_t4 (List.mem_of_getElem? (i := 12) rfl)) rfl
theorem ml_SL_88 : Cond.methodLink "java/lang/StringLatin1" 88 (mY Y_SL_canEncode) ∈ gd_tbl := gd_in (in_t4 (List.mem_of_getElem? (i := 8) rfl)) rfl
theorem ml_SL_92 : Cond.methodLink "java/lang/StringLatin1" 92 (mY Y_Ma_max) ∈ gd_tbl := gd_in (in_t4 (List.mem_of_getElem? (i := 11) rfl)) rfl
theorem ml_SL_95 : Cond.methodLink "java/lang/StringLatin1" 95 (mY Y_SL_indexOfChar) ∈ gd_tbl := gd_in (in_t4 (List.mem_of_getElem? (i := 15) rfl)) rfl
theorem ml_SU_183 : Cond.methodLink "java/lang/StringUTF16" 183 (mY Y_Ma_min) ∈ gd_tbl := gd_in (in_t4 (List.mem_of_getElem? (i := 22) rfl)) rfl
theorem ml_SU_224 : Cond.methodLink "java/lang/StringUTF16" 224 (mY Y_Ma_max) ∈ gd_tbl := gd_in (in_t4 (List.mem_of_getElem? (i := 21) rfl)) rfl
theorem ml_SU_241 : Cond.methodLink "java/lang/StringUTF16" 241 (mY Y_Str_checkBoundsBeginEnd) ∈ gd_tbl := gd_in (in_t4 (List.mem_of_getElem? (i := 30) rfl)) rfl
theorem ml_SU_414 : Cond.methodLink "java/lang/StringUTF16" 414 (mY Y_Str_checkIndex) ∈ gd_tbl := gd_in (in_t3 (List.mem_of_getElem? (i := 218) rfl)) rfl
theorem ml_Ar_304 : Cond.methodLink "java/util/Arrays" 304 (mY Y_Ma_min) ∈ gd_tbl := gd_in (in_t4 (List.mem_of_getElem? (i := 118) rfl)) rfl
theorem mn_B_41 : ("BangSquare", 41, mY Y_Sh_init, "BangSquare") ∈ nst := List.mem_of_getElem? (i := 0) rfl
theorem mn_B_44 : ("BangSquare", 44, mY Y_Rd_init, "BangSquare") ∈ nst := List.mem_of_getElem? (i := 1) rfl
theorem mn_Cw_51 : ("BangSquare$Crowd", 51, mY Y_B_loudness, "BangSquare") ∈ nst := List.mem_of_getElem? (i := 2) rfl
theorem mn_Cw_72 : ("BangSquare$Crowd", 72, mY Y_B_sectorOf, "BangSquare") ∈ nst := List.mem_of_getElem? (i := 3) rfl
theorem mn_Hd_31 : ("BangSquare$Heard", 31, mY Y_B_between, "BangSquare") ∈ nst := List.mem_of_getElem? (i := 4) rfl
theorem mn_Hd_68 : ("BangSquare$Heard", 68, mY Y_B_column, "BangSquare") ∈ nst := List.mem_of_getElem? (i := 5) rfl
theorem mn_Hd_72 : ("BangSquare$Heard", 72, mY Y_B_row, "BangSquare") ∈ nst := List.mem_of_getElem? (i := 6) rfl
theorem mn_Hd_89 : ("BangSquare$Heard", 89, mY Y_B_loudness, "BangSquare") ∈ nst := List.mem_of_getElem? (i := 7) rfl
theorem mn_Rd_124 : ("BangSquare$Reader", 124, mY Y_B_within, "BangSquare") ∈ nst := List.mem_of_getElem? (i := 8) rfl
theorem mn_Sq_21 : ("BangSquare$Square", 21, mY Y_Wl_init, "BangSquare") ∈ nst := List.mem_of_getElem? (i := 9) rfl
theorem mn_Sq_22 : ("BangSquare$Square", 22, mY Y_B_column, "BangSquare") ∈ nst := List.mem_of_getElem? (i := 10) rfl
theorem mn_Sq_26 : ("BangSquare$Square", 26, mY Y_B_row, "BangSquare") ∈ nst := List.mem_of_getElem? (i := 11) rfl
theorem mn_Sq_41 : ("BangSquare$Square", 41, mY Y_B_distance, "BangSquare") ∈ nst := List.mem_of_getElem? (i := 12) rfl
theorem mn_Tp_33 : ("BangSquare$Tape", 33, mY Y_Sh_init, "BangSquare") ∈ nst := List.mem_of_getElem? (i := 13) rfl
theorem mn_Tp_99 : ("BangSquare$Tape", 99, mY Y_B_unionOf, "BangSquare") ∈ nst := List.mem_of_getElem? (i := 14) rfl
theorem mn_Tp_103 : ("BangSquare$Tape", 103, mY Y_B_isFewer, "BangSquare") ∈ nst := List.mem_of_getElem? (i := 15) rfl
theorem mn_Wl_28 : ("BangSquare$Wall", 28, mY Y_B_column, "BangSquare") ∈ nst := List.mem_of_getElem? (i := 16) rfl
theorem mn_Wl_32 : ("BangSquare$Wall", 32, mY Y_B_row, "BangSquare") ∈ nst := List.mem_of_getElem? (i := 17) rfl
theorem mn_Wl_46 : ("BangSquare$Wall", 46, mY Y_B_distance, "BangSquare") ∈ nst := List.mem_of_getElem? (i := 18) rfl
theorem kc_B_156 : Cond.constant "BangSquare" 156 99999 ∈ gd_tbl := gd_in (in_t3 (List.mem_of_getElem? (i := 72) rfl)) rfl
theorem kc_B_251 : Cond.constant "BangSquare" 251 199999 ∈ gd_tbl := gd_in (in_t4 (List.mem_of_getElem? (i := 187) rfl)) rfl
theorem kc_B_305 : Cond.constant "BangSquare" 305 9999999 ∈ gd_tbl := gd_in (in_t5 (List.mem_of_getElem? (i := 31) rfl)) rfl
theorem kc_Sc_20 : Cond.constant "BangSquare$Script" 20 131071 ∈ gd_tbl := gd_in (in_t4 (List.mem_of_getElem? (i := 149) rfl)) rfl
theorem kc_Sp_31 : Cond.constant "BangSquare$Spans" 31 (-1000000000) ∈ gd_tbl := gd_in (in_t4 (List.mem_of_getElem? (i := 200) rfl)) rfl
theorem kc_Sp_32 : Cond.constant "BangSquare$Spans" 32 1000000000 ∈ gd_tbl := gd_in (in_t4 (List.mem_of_getElem? (i := 201) rfl)) rfl
theorem kc_M_205 : Cond.constant "BangSquareModel" 205 99999 ∈ gd_tbl := gd_in (in_t6 (List.mem_of_getElem? (i := 191) rfl)) rfl
theorem kc_M_276 : Cond.constant "BangSquareModel" 276 100000 ∈ gd_tbl := gd_in (in_t7 (List.mem_of_getElem? (i := 20) rfl)) rfl
theorem kc_M_384 : Cond.constant "BangSquareModel" 384 199999 ∈ gd_tbl := gd_in (in_t7 (List.mem_of_getElem? (i := 141) rfl)) rfl
theorem kc_M_385 : Cond.constant "BangSquareModel" 385 (-10000000) ∈ gd_tbl := gd_in (in_t7 (List.mem_of_getElem? (i := 150) rfl)) rfl
theorem kc_M_386 : Cond.constant "BangSquareModel" 386 10000000 ∈ gd_tbl := gd_in (in_t7 (List.mem_of_getElem? (i := 151) rfl)) rfl
theorem kc_M_422 : Cond.constant "BangSquareModel" 422 9999999 ∈ gd_tbl := gd_in (in_t7 (List.mem_of_getElem? (i := 204) rfl)) rfl
theorem kc_Ig_265 : Cond.constant "java/lang/Integer" 265 1431655765 ∈ gd_tbl := gd_in (in_t5 (List.mem_of_getElem? (i := 24) rfl)) rfl
theorem kc_Ig_266 : Cond.constant "java/lang/Integer" 266 858993459 ∈ gd_tbl := gd_in (in_t5 (List.mem_of_getElem? (i := 25) rfl)) rfl
theorem kc_Ig_267 : Cond.constant "java/lang/Integer" 267 252645135 ∈ gd_tbl := gd_in (in_t5 (List.mem_of_getElem? (i := 26) rfl)) rfl
theorem kl_Lg_314 : Cond.constantLong "java/lang/Long" 314 6148914691236517205 ∈ gd_tbl := gd_in (in_t5 (List.mem_of_getElem? (i := 122) rfl)) rfl
theorem kl_Lg_316 : Cond.constantLong "java/lang/Long" 316 3689348814741910323 ∈ gd_tbl := gd_in (in_t5 (List.mem_of_getElem? (i := 123) rfl)) rfl
theorem kl_Lg_318 : Cond.constantLong "java/lang/Long" 318 1085102592571150095 ∈ gd_tbl := gd_in (in_t5 (List.mem_of_getElem? (i := 124) rfl)) rfl
