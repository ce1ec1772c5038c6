theorem ok_type : okCase 184 2 13 [330, 331, 332, 67, 333] g_W_type 17 [876, 877, 878, 77, 879] g_M_type (976) false = true := by decide +kernel
theorem ok_wipe : okCase 217 1 18 [377, 378, 379, 67, 380] g_W_wipe 22 [884, 885, 886, 77, 887] g_M_wipe (953) false = true := by decide +kernel
theorem ok_undo : okCase 240 1 23 [381, 382, 383, 67, 384] g_W_undo 26 [888, 889, 890, 77, 891] g_M_undo (930) false = true := by decide +kernel
theorem ok_fault : okCase 263 1 27 [389, 390, 391, 67, 392] g_W_fault 30 [892, 893, 894, 77, 895] g_M_fault (907) false = true := by decide +kernel
theorem ok_poster : okCase 286 2 31 [393, 394, 395, 67, 396] g_W_poster 34 [928, 929, 930, 77, 931] g_M_poster (874) false = true := by decide +kernel
theorem ok_rain : okCase 319 1 35 [401, 402, 403, 67, 404] g_W_rain 38 [941, 942, 943, 77, 944] g_M_rain (851) false = true := by decide +kernel
theorem ok_law : okCase 342 1 39 [405, 406, 407, 67, 408] g_W_law 42 [949, 950, 951, 77, 952] g_M_law (828) false = true := by decide +kernel
theorem ok_tear : okCase 365 2 43 [409, 410, 411, 67, 412] g_W_tear 46 [957, 958, 959, 77, 960] g_M_tear (795) false = true := by decide +kernel
theorem ok_back : okCase 398 0 47 [417, 418, 419, 67, 420] g_W_back 51 [961, 962, 963, 77, 964] g_M_back (782) false = true := by decide +kernel
theorem ok_read : okCase 411 1 52 [421, 422, 423, 67, 424] g_W_read 55 [965, 966, 967, 77, 968] g_M_read (759) false = true := by decide +kernel
theorem ok_at : okCase 434 3 56 [435, 436, 437, 67, 438] g_W_at 60 [970, 971, 972, 77, 973] g_M_at (716) false = true := by decide +kernel
theorem ok_obeyed : okCase 477 1 61 [481, 482, 483, 67, 484] g_W_obeyed 64 [1012, 1013, 1014, 77, 1015] g_M_obeyed (693) false = true := by decide +kernel
theorem ok_days : okCase 500 1 65 [490, 491, 492, 67, 493] g_W_days 68 [1020, 1021, 1022, 77, 1023] g_M_days (670) false = true := by decide +kernel
theorem ok_unread : okCase 523 0 69 [499, 500, 501, 67, 502] g_W_unread 72 [1031, 1032, 1033, 77, 1034] g_M_unread (657) false = true := by decide +kernel
theorem ok_often : okCase 536 0 73 [515, 516, 517, 67, 518] g_W_often 76 [1043, 1044, 1045, 77, 1046] g_M_often (644) false = true := by decide +kernel
theorem ok_rip : okCase 549 2 77 [520, 521, 522, 67, 523] g_W_rip 80 [1051, 1052, 1053, 77, 1054] g_M_rip (611) false = true := by decide +kernel
theorem ok_wet : okCase 582 1 81 [548, 549, 550, 67, 551] g_W_wet 84 [1064, 1065, 1066, 77, 1067] g_M_wet (588) false = true := by decide +kernel
theorem ok_paste : okCase 605 2 85 [552, 553, 554, 67, 555] g_W_paste 88 [1072, 1073, 1074, 77, 1075] g_M_paste (555) false = true := by decide +kernel
theorem ok_stick : okCase 638 2 89 [560, 561, 562, 67, 563] g_W_stick 92 [1080, 1081, 1082, 77, 1083] g_M_stick (522) false = true := by decide +kernel
theorem ok_seen : okCase 671 3 93 [572, 573, 574, 67, 575] g_W_seen 96 [1088, 1089, 1090, 77, 1091] g_M_seen (479) false = true := by decide +kernel
theorem ok_forget : okCase 714 0 97 [580, 581, 582, 67, 583] g_W_forget 100 [1092, 1093, 1094, 77, 1095] g_M_forget (466) false = true := by decide +kernel
theorem ok_never : okCase 727 0 101 [584, 585, 586, 67, 587] g_W_never 104 [1096, 1097, 1098, 77, 1099] g_M_never (453) false = true := by decide +kernel
theorem ok_was : okCase 740 2 105 [597, 598, 599, 67, 600] g_W_was 108 [1108, 1109, 1110, 77, 1111] g_M_was (420) false = true := by decide +kernel
theorem ok_ask : okCase 773 1 109 [614, 615, 616, 67, 617] g_W_ask 112 [1124, 1125, 1126, 77, 1127] g_M_ask (397) false = true := by decide +kernel
theorem ok_shower : okCase 796 4 113 [627, 628, 629, 67, 630] g_W_shower 117 [1132, 1133, 1134, 77, 1135] g_M_shower (343) true = true := by decide +kernel
theorem ok_season : okCase 850 3 118 [656, 657, 658, 67, 659] g_W_season 121 [1149, 1150, 1151, 77, 1152] g_M_season (300) false = true := by decide +kernel
theorem ok_sheet : okCase 893 3 122 [667, 668, 669, 67, 670] g_W_sheet 125 [836, 837, 838, 77, 839] g_M_sheet (257) false = true := by decide +kernel
theorem ok_lose : okCase 936 1 126 [680, 681, 682, 67, 683] g_W_lose 129 [852, 853, 854, 77, 855] g_M_lose (234) false = true := by decide +kernel
theorem ok_lay : okCase 959 4 130 [684, 685, 686, 67, 687] g_W_lay 134 [856, 857, 858, 77, 859] g_M_lay (181) false = true := by decide +kernel
theorem ok_get : okCase 1012 3 135 [699, 700, 701, 67, 702] g_W_get 138 [867, 868, 869, 77, 870] g_M_get (138) false = true := by decide +kernel
theorem ok_copy : okCase 1055 5 139 [704, 705, 706, 67, 707] g_W_copy 143 [872, 873, 874, 77, 875] g_M_copy (75) false = true := by decide +kernel
theorem ok_write : okCase 1118 2 144 [709, 710, 711, 67, 712] g_W_write 147 [1166, 1167, 1168, 77, 1169] g_M_write (42) false = true := by decide +kernel
theorem ok_count : okCase 1151 1 148 [714, 715, 716, 67, 717] g_W_count 151 [1173, 1174, 1175, 77, 1176] g_M_count (19) false = true := by decide +kernel
theorem ok_digest : okCase 1174 0 152 [718, 719, 720, 67, 721] g_W_digest 156 [1181, 1182, 1183, 77, 1184] g_M_digest (5) true = true := by decide +kernel
theorem dl_18 : decode code 18 = .ok (.iload_n 3, 1) := by decide +kernel
theorem dl_19 : decode code 19 = .ok (.aload_n 0, 1) := by decide +kernel
theorem dl_20 : decode code 20 = .ok (.arraylength, 1) := by decide +kernel
theorem dl_21 : decode code 21 = .ok (.bipush 6, 2) := by decide +kernel
theorem dl_23 : decode code 23 = .ok (.isub, 1) := by decide +kernel
theorem dl_24 : decode code 24 = .ok (.if_icmp .gt 1170, 3) := by decide +kernel
theorem dl_27 : decode code 27 = .ok (.aload_n 0, 1) := by decide +kernel
theorem dl_28 : decode code 28 = .ok (.iload_n 3, 1) := by decide +kernel
theorem dl_29 : decode code 29 = .ok (.iaload, 1) := by decide +kernel
theorem dl_30 : decode code 30 = .ok (.bipush 63, 2) := by decide +kernel
theorem dl_32 : decode code 32 = .ok (.iand, 1) := by decide +kernel
theorem dl_33 : decode code 33 = .ok (.tableswitch 1155 0 33 #[151, 184, 207, 230, 253, 286, 309, 332, 365, 378, 401, 444, 467, 490, 503, 516, 549, 572, 605, 638, 681, 694, 707, 740, 763, 817, 860, 903, 926, 979, 1022, 1085, 1118, 1141], 151) := by decide +kernel
theorem dl_1188 : decode code 1188 = .ok (.iinc 3 6, 3) := by decide +kernel
theorem dl_1191 : decode code 1191 = .ok (.goto (-1173), 3) := by decide +kernel
theorem dl_1194 : decode code 1194 = .ok (.iconst 1, 1) := by decide +kernel
theorem dl_1195 : decode code 1195 = .ok (.ireturn, 1) := by decide +kernel
theorem dl_0 : decode code 0 = .ok (.new 7, 3) := by decide +kernel
theorem dl_3 : decode code 3 = .ok (.dup, 1) := by decide +kernel
theorem dl_4 : decode code 4 = .ok (.invokespecial 9, 3) := by decide +kernel
theorem dl_7 : decode code 7 = .ok (.astore_n 1, 1) := by decide +kernel
theorem dl_8 : decode code 8 = .ok (.new 10, 3) := by decide +kernel
theorem dl_11 : decode code 11 = .ok (.dup, 1) := by decide +kernel
theorem dl_12 : decode code 12 = .ok (.invokespecial 12, 3) := by decide +kernel
theorem dl_15 : decode code 15 = .ok (.astore_n 2, 1) := by decide +kernel
theorem dl_16 : decode code 16 = .ok (.iconst 0, 1) := by decide +kernel
theorem dl_17 : decode code 17 = .ok (.istore_n 3, 1) := by decide +kernel
section LAW2
variable {p : Program} {l : Launch} {e : Env} {s : State} {m : MethodId} {below : List Frame} {meth : Method} {c : Code} {b Ln : Nat} {xs : Nat → Int32} {X : WX} {cells slots : Nat} {G : State → Prop}
theorem law_disp (C : LC p s m meth c b Ln xs X cells slots) {H : Heap} {locs : List Loc} {ls : Array Slot} {u : Mem} {i k : Nat} (hk : k < 34) (hI : Inv u) (hin : i + 6 ≤ Ln) (hP : va_P X.D wCl (wsx X u) H) (hS : va_S (AX X) s.heap H locs) (hl : LL X b i ls)
    (kk : ∀ (u' : Mem) (H' : Heap) (locs' : List Loc), Inv u' → va_P X.D wCl (wsx X u') H' → va_S (AX X) s.heap H' locs' → W p l e room_1 s m #[Value.ref b] below meth c H' locs' cells slots G (F0 m 1188 ls [])) : W p l e room_1 s m #[Value.ref b] below meth c H locs cells slots G (F0 m 33 ls [.int (nI k)]) := by
  obtain ⟨⟨hx, hb, -⟩, -⟩ := id C
  match k, hk with
  | 0, _ => exact lv_tableIn (off := 151) (tgt := 184) hx hb dl_33 (by decide) (by decide) (by decide) (by decide) (law_case C ok_type (pr_type hI) (by omega) (by omega) hP hS hl kk)
  | 1, _ => exact lv_tableIn (off := 184) (tgt := 217) hx hb dl_33 (by decide) (by decide) (by decide) (by decide) (law_case C ok_wipe (pr_wipe hI) (by omega) (by omega) hP hS hl kk)
  | 2, _ => exact lv_tableIn (off := 207) (tgt := 240) hx hb dl_33 (by decide) (by decide) (by decide) (by decide) (law_case C ok_undo (pr_undo hI) (by omega) (by omega) hP hS hl kk)
  | 3, _ => exact lv_tableIn (off := 230) (tgt := 263) hx hb dl_33 (by decide) (by decide) (by decide) (by decide) (law_case C ok_fault (pr_fault hI) (by omega) (by omega) hP hS hl kk)
  | 4, _ => exact lv_tableIn (off := 253) (tgt := 286) hx hb dl_33 (by decide) (by decide) (by decide) (by decide) (law_case C ok_poster (pr_poster hI) (by omega) (by omega) hP hS hl kk)
  | 5, _ => exact lv_tableIn (off := 286) (tgt := 319) hx hb dl_33 (by decide) (by decide) (by decide) (by decide) (law_case C ok_rain (pr_rain hI) (by omega) (by omega) hP hS hl kk)
  | 6, _ => exact lv_tableIn (off := 309) (tgt := 342) hx hb dl_33 (by decide) (by decide) (by decide) (by decide) (law_case C ok_law (pr_law hI) (by omega) (by omega) hP hS hl kk)
  | 7, _ => exact lv_tableIn (off := 332) (tgt := 365) hx hb dl_33 (by decide) (by decide) (by decide) (by decide) (law_case C ok_tear (pr_tear hI) (by omega) (by omega) hP hS hl kk)
  | 8, _ => exact lv_tableIn (off := 365) (tgt := 398) hx hb dl_33 (by decide) (by decide) (by decide) (by decide) (law_case C ok_back (pr_back hI) (by omega) (by omega) hP hS hl kk)
  | 9, _ => exact lv_tableIn (off := 378) (tgt := 411) hx hb dl_33 (by decide) (by decide) (by decide) (by decide) (law_case C ok_read (pr_read hI) (by omega) (by omega) hP hS hl kk)
  | 10, _ => exact lv_tableIn (off := 401) (tgt := 434) hx hb dl_33 (by decide) (by decide) (by decide) (by decide) (law_case C ok_at (pr_at hI) (by omega) (by omega) hP hS hl kk)
  | 11, _ => exact lv_tableIn (off := 444) (tgt := 477) hx hb dl_33 (by decide) (by decide) (by decide) (by decide) (law_case C ok_obeyed (pr_obeyed hI) (by omega) (by omega) hP hS hl kk)
  | 12, _ => exact lv_tableIn (off := 467) (tgt := 500) hx hb dl_33 (by decide) (by decide) (by decide) (by decide) (law_case C ok_days (pr_days hI) (by omega) (by omega) hP hS hl kk)
  | 13, _ => exact lv_tableIn (off := 490) (tgt := 523) hx hb dl_33 (by decide) (by decide) (by decide) (by decide) (law_case C ok_unread (pr_unread hI) (by omega) (by omega) hP hS hl kk)
  | 14, _ => exact lv_tableIn (off := 503) (tgt := 536) hx hb dl_33 (by decide) (by decide) (by decide) (by decide) (law_case C ok_often (pr_often hI) (by omega) (by omega) hP hS hl kk)
  | 15, _ => exact lv_tableIn (off := 516) (tgt := 549) hx hb dl_33 (by decide) (by decide) (by decide) (by decide) (law_case C ok_rip (pr_rip hI) (by omega) (by omega) hP hS hl kk)
  | 16, _ => exact lv_tableIn (off := 549) (tgt := 582) hx hb dl_33 (by decide) (by decide) (by decide) (by decide) (law_case C ok_wet (pr_wet hI) (by omega) (by omega) hP hS hl kk)
  | 17, _ => exact lv_tableIn (off := 572) (tgt := 605) hx hb dl_33 (by decide) (by decide) (by decide) (by decide) (law_case C ok_paste (pr_paste hI) (by omega) (by omega) hP hS hl kk)
  | 18, _ => exact lv_tableIn (off := 605) (tgt := 638) hx hb dl_33 (by decide) (by decide) (by decide) (by decide) (law_case C ok_stick (pr_stick hI) (by omega) (by omega) hP hS hl kk)
  | 19, _ => exact lv_tableIn (off := 638) (tgt := 671) hx hb dl_33 (by decide) (by decide) (by decide) (by decide) (law_case C ok_seen (pr_seen hI) (by omega) (by omega) hP hS hl kk)
  | 20, _ => exact lv_tableIn (off := 681) (tgt := 714) hx hb dl_33 (by decide) (by decide) (by decide) (by decide) (law_case C ok_forget (pr_forget hI) (by omega) (by omega) hP hS hl kk)
  | 21, _ => exact lv_tableIn (off := 694) (tgt := 727) hx hb dl_33 (by decide) (by decide) (by decide) (by decide) (law_case C ok_never (pr_never hI) (by omega) (by omega) hP hS hl kk)
  | 22, _ => exact lv_tableIn (off := 707) (tgt := 740) hx hb dl_33 (by decide) (by decide) (by decide) (by decide) (law_case C ok_was (pr_was hI) (by omega) (by omega) hP hS hl kk)
  | 23, _ => exact lv_tableIn (off := 740) (tgt := 773) hx hb dl_33 (by decide) (by decide) (by decide) (by decide) (law_case C ok_ask (pr_ask hI) (by omega) (by omega) hP hS hl kk)
  | 24, _ => exact lv_tableIn (off := 763) (tgt := 796) hx hb dl_33 (by decide) (by decide) (by decide) (by decide) (law_case C ok_shower (pr_shower hI) (by omega) (by omega) hP hS hl kk)
  | 25, _ => exact lv_tableIn (off := 817) (tgt := 850) hx hb dl_33 (by decide) (by decide) (by decide) (by decide) (law_case C ok_season (pr_season hI) (by omega) (by omega) hP hS hl kk)
  | 26, _ => exact lv_tableIn (off := 860) (tgt := 893) hx hb dl_33 (by decide) (by decide) (by decide) (by decide) (law_case C ok_sheet (pr_sheet hI) (by omega) (by omega) hP hS hl kk)
  | 27, _ => exact lv_tableIn (off := 903) (tgt := 936) hx hb dl_33 (by decide) (by decide) (by decide) (by decide) (law_case C ok_lose (pr_lose hI) (by omega) (by omega) hP hS hl kk)
  | 28, _ => exact lv_tableIn (off := 926) (tgt := 959) hx hb dl_33 (by decide) (by decide) (by decide) (by decide) (law_case C ok_lay (pr_lay hI) (by omega) (by omega) hP hS hl kk)
  | 29, _ => exact lv_tableIn (off := 979) (tgt := 1012) hx hb dl_33 (by decide) (by decide) (by decide) (by decide) (law_case C ok_get (pr_get hI) (by omega) (by omega) hP hS hl kk)
  | 30, _ => exact lv_tableIn (off := 1022) (tgt := 1055) hx hb dl_33 (by decide) (by decide) (by decide) (by decide) (law_case C ok_copy (pr_copy hI) (by omega) (by omega) hP hS hl kk)
  | 31, _ => exact lv_tableIn (off := 1085) (tgt := 1118) hx hb dl_33 (by decide) (by decide) (by decide) (by decide) (law_case C ok_write (pr_write hI) (by omega) (by omega) hP hS hl kk)
  | 32, _ => exact lv_tableIn (off := 1118) (tgt := 1151) hx hb dl_33 (by decide) (by decide) (by decide) (by decide) (law_case C ok_count (pr_count hI) (by omega) (by omega) hP hS hl kk)
  | 33, _ => exact lv_tableIn (off := 1141) (tgt := 1174) hx hb dl_33 (by decide) (by decide) (by decide) (by decide) (law_case C ok_digest (pr_digest hI) (by omega) (by omega) hP hS hl kk)
  | k + 34, h => exact absurd h (by omega)
end LAW2
