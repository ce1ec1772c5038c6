def g_B_init : Sg := (⟨RB, "<init>", "()V"⟩, prog_2_method_1_code, 1, none)
def bk_B_init_0 : List En := [(.aload_n 0, 1, 0, 0, [], g_0), (.invokespecial 3, 3, 0, 100, [102, 86, 87], g_0), (.aload_n 0, 1, 0, 0, [], g_0), (.iconst 4, 1, 4, 0, [], g_0), (.newarray .int, 2, 9, 0, [134], g_0), (.putfield 9, 3, 0, 0, [103], g_0), (.aload_n 0, 1, 0, 0, [], g_0), (.iconst 0, 1, 0, 0, [], g_0), (.putfield 15, 3, 0, 1, [105], g_0), (.aload_n 0, 1, 0, 0, [], g_0), (.iconst 0, 1, 0, 0, [], g_0), (.putfield 19, 3, 0, 2, [108], g_0), (.aload_n 0, 1, 0, 0, [], g_0), (.iconst 0, 1, 0, 0, [], g_0), (.putfield 22, 3, 0, 3, [112], g_0), (.aload_n 0, 1, 0, 0, [], g_0), (.iconst 1, 1, 1, 0, [], g_0), (.putfield 25, 3, 0, 4, [115], g_0), (.aload_n 0, 1, 0, 0, [], g_0), (.iconst 0, 1, 0, 0, [], g_0), (.putfield 28, 3, 0, 5, [118], g_0), (.return_, 1, 0, 0, [], g_0)]
def cd_B_init : Cd := [(0, bk_B_init_0), (37, [])]
def Y_B_init : Mth := (g_B_init, RB, cd_B_init)
def g_P_init : Sg := (⟨RP, "<init>", "()V"⟩, prog_3_method_1_code, 1, none)
def bk_P_init_0 : List En := [(.aload_n 0, 1, 0, 0, [], g_0), (.invokespecial 3, 3, 0, 100, [196, 86, 87], g_0), (.aload_n 0, 1, 0, 0, [], g_0), (.bipush 6, 2, 6, 0, [], g_0), (.newarray .int, 2, 10, 0, [134], g_0), (.putfield 9, 3, 1, 0, [197], g_0), (.aload_n 0, 1, 0, 0, [], g_0), (.bipush 48, 2, 48, 0, [], g_0), (.newarray .int, 2, 11, 0, [134], g_0), (.putfield 15, 3, 1, 1, [199], g_0), (.aload_n 0, 1, 0, 0, [], g_0), (.bipush 48, 2, 48, 0, [], g_0), (.newarray .int, 2, 12, 0, [134], g_0), (.putfield 18, 3, 1, 2, [201], g_0), (.return_, 1, 0, 0, [], g_0)]
def cd_P_init : Cd := [(0, bk_P_init_0), (29, [])]
def Y_P_init : Mth := (g_P_init, RP, cd_P_init)
def g_N_init : Sg := (⟨RN, "<init>", "()V"⟩, prog_4_method_1_code, 2, none)
def bk_N_init_0 : List En := [(.aload_n 0, 1, 0, 0, [], g_0), (.invokespecial 3, 3, 0, 100, [95, 86, 87], g_0), (.aload_n 0, 1, 0, 0, [], g_0), (.bipush 8, 2, 8, 0, [], g_0), (.anewarray 9, 3, 13, 5, [96], g_0), (.putfield 11, 3, 2, 0, [138], g_0), (.aload_n 0, 1, 0, 0, [], g_0), (.bipush 20, 2, 20, 0, [], g_0), (.newarray .int, 2, 14, 0, [134], g_0), (.putfield 17, 3, 2, 1, [141], g_0), (.aload_n 0, 1, 0, 0, [], g_0), (.bipush 6, 2, 6, 0, [], g_0), (.newarray .int, 2, 15, 0, [134], g_0), (.putfield 21, 3, 2, 2, [143], g_0), (.aload_n 0, 1, 0, 0, [], g_0), (.bipush 10, 2, 10, 0, [], g_0), (.newarray .int, 2, 16, 0, [134], g_0), (.putfield 24, 3, 2, 3, [146], g_0), (.aload_n 0, 1, 0, 0, [], g_0), (.bipush 10, 2, 10, 0, [], g_0), (.newarray .int, 2, 17, 0, [134], g_0), (.putfield 27, 3, 2, 4, [148], g_0), (.aload_n 0, 1, 0, 0, [], g_0), (.iconst 0, 1, 0, 0, [], g_0), (.putfield 30, 3, 2, 5, [150], g_0), (.aload_n 0, 1, 0, 0, [], g_0), (.iconst 0, 1, 0, 0, [], g_0), (.putfield 34, 3, 2, 6, [153], g_0), (.aload_n 0, 1, 0, 0, [], g_0), (.iconst 0, 1, 0, 0, [], g_0), (.putfield 37, 3, 2, 7, [155], g_0), (.aload_n 0, 1, 0, 0, [], g_0), (.iconst 0, 1, 0, 0, [], g_0), (.putfield 40, 3, 2, 8, [158], g_0), (.aload_n 0, 1, 0, 0, [], g_0), (.iconst (-1), 1, 1, 1, [], g_0), (.putfield 43, 3, 2, 9, [161], g_0), (.iconst 0, 1, 0, 0, [], g_0), (.istore_n 1, 1, 1, 0, [], g_0)]
def bk_N_init_1 : List En := [(.iload_n 1, 1, 1, 0, [], g_0), (.aload_n 0, 1, 0, 0, [], g_0), (.getfield 11, 3, 2, 0, [138], g_0), (.arraylength, 1, 0, 0, [], g_0), (.if_icmp .ge 22, 3, 2, 0, [], g_0), (.aload_n 0, 1, 0, 0, [], g_0), (.getfield 11, 3, 2, 0, [138], g_0), (.iload_n 1, 1, 1, 0, [], g_0), (.new 9, 3, 0, 0, [96, 98, 69], g_0), (.dup, 1, 0, 0, [], g_0), (.invokespecial 46, 3, 0, 0, [99, 1, 100, 69, 101], g_0), (.aastore, 1, 0, 0, [], g_0), (.iinc 1 1, 3, 1, 1, [0], g_0), (.goto (-25), 3, 1, 0, [], g_0)]
def bk_N_init_2 : List En := [(.aload_n 0, 1, 0, 0, [], g_0), (.getfield 21, 3, 2, 2, [143], g_0), (.iconst (-1), 1, 1, 1, [], g_0), (.invokestatic 47, 3, 2, 9, [135, 0, 136, 70, 137], g_0), (.return_, 1, 0, 0, [], g_0)]
def cd_N_init : Cd := [(0, bk_N_init_0), (72, bk_N_init_1), (100, bk_N_init_2), (109, [])]
def Y_N_init : Mth := (g_N_init, RN, cd_N_init)
def g_R_init : Sg := (⟨RR, "<init>", "()V"⟩, prog_5_method_1_code, 1, none)
def bk_R_init_0 : List En := [(.aload_n 0, 1, 0, 0, [], g_0), (.invokespecial 3, 3, 0, 100, [272, 86, 87], g_0), (.aload_n 0, 1, 0, 0, [], g_0), (.bipush 60, 2, 60, 0, [], g_0), (.newarray .int, 2, 18, 0, [134], g_0), (.putfield 9, 3, 3, 0, [273], g_0), (.aload_n 0, 1, 0, 0, [], g_0), (.iconst 1, 1, 1, 0, [], g_0), (.putfield 15, 3, 3, 1, [275], g_0), (.aload_n 0, 1, 0, 0, [], g_0), (.iconst 0, 1, 0, 0, [], g_0), (.putfield 19, 3, 3, 2, [277], g_0), (.aload_n 0, 1, 0, 0, [], g_0), (.iconst 0, 1, 0, 0, [], g_0), (.putfield 23, 3, 3, 3, [279], g_0), (.return_, 1, 0, 0, [], g_0)]
def cd_R_init : Cd := [(0, bk_R_init_0), (28, [])]
def Y_R_init : Mth := (g_R_init, RR, cd_R_init)
def g_S_init : Sg := (⟨RS, "<init>", "()V"⟩, prog_6_method_1_code, 1, none)
def bk_S_init_0 : List En := [(.aload_n 0, 1, 0, 0, [], g_0), (.invokespecial 3, 3, 0, 100, [228, 86, 87], g_0), (.aload_n 0, 1, 0, 0, [], g_0), (.bipush 8, 2, 8, 0, [], g_0), (.newarray .int, 2, 19, 0, [134], g_0), (.putfield 9, 3, 4, 0, [229], g_0), (.aload_n 0, 1, 0, 0, [], g_0), (.bipush 8, 2, 8, 0, [], g_0), (.newarray .int, 2, 20, 0, [134], g_0), (.putfield 15, 3, 4, 1, [230], g_0), (.aload_n 0, 1, 0, 0, [], g_0), (.bipush 8, 2, 8, 0, [], g_0), (.newarray .int, 2, 21, 0, [134], g_0), (.putfield 18, 3, 4, 2, [231], g_0), (.aload_n 0, 1, 0, 0, [], g_0), (.iconst 0, 1, 0, 0, [], g_0), (.putfield 21, 3, 4, 3, [232], g_0), (.return_, 1, 0, 0, [], g_0)]
def cd_S_init : Cd := [(0, bk_S_init_0), (34, [])]
def Y_S_init : Mth := (g_S_init, RS, cd_S_init)
def g_T_init : Sg := (⟨RT, "<init>", "(LPosterWall$Plan;)V"⟩, prog_7_method_1_code, 2, none)
def bk_T_init_0 : List En := [(.aload_n 0, 1, 0, 0, [], g_0), (.invokespecial 3, 3, 0, 100, [190, 86, 87], g_0), (.aload_n 0, 1, 0, 0, [], g_0), (.new 9, 3, 1, 0, [191, 192, 72], g_0), (.dup, 1, 0, 0, [], g_0), (.invokespecial 11, 3, 0, 1, [193, 1, 194, 72, 195], g_0), (.putfield 12, 3, 5, 1, [211], g_0), (.aload_n 0, 1, 0, 0, [], g_0), (.sipush 720, 3, 720, 0, [], g_0), (.newarray .int, 2, 22, 0, [134], g_0), (.putfield 18, 3, 5, 2, [213], g_0), (.aload_n 0, 1, 0, 0, [], g_0), (.aload_n 1, 1, 1, 0, [], g_0), (.putfield 22, 3, 5, 0, [210], g_0), (.return_, 1, 0, 0, [], g_0)]
def cd_T_init : Cd := [(0, bk_T_init_0), (30, [])]
def Y_T_init : Mth := (g_T_init, RT, cd_T_init)
def g_X_init : Sg := (⟨RX, "<init>", "(I)V"⟩, prog_8_method_1_code, 2, none)
def bk_X_init_0 : List En := [(.aload_n 0, 1, 0, 0, [], g_0), (.invokespecial 3, 3, 0, 100, [249, 86, 87], g_0), (.aload_n 0, 1, 0, 0, [], g_0), (.iconst 0, 1, 0, 0, [], g_0), (.putfield 9, 3, 6, 1, [254], g_0), (.aload_n 0, 1, 0, 0, [], g_0), (.iconst (-1), 1, 1, 1, [], g_0), (.putfield 15, 3, 6, 2, [257], g_0), (.aload_n 0, 1, 0, 0, [], g_0), (.iconst 0, 1, 0, 0, [], g_0), (.iload_n 1, 1, 1, 0, [], g_0), (.invokestatic 18, 3, 0, 4, [250, 251, 0, 75, 252], g_0), (.newarray .int, 2, 23, 0, [134], g_0), (.putfield 24, 3, 6, 0, [253], g_0), (.return_, 1, 0, 0, [], g_0)]
def cd_X_init : Cd := [(0, bk_X_init_0), (26, [])]
def Y_X_init : Mth := (g_X_init, RX, cd_X_init)
def g_W_init : Sg := (⟨RW, "<init>", "()V"⟩, prog_1_method_1_code, 2, none)
def bk_W_init_0 : List En := [(.aload_n 0, 1, 0, 0, [], g_0), (.invokespecial 1, 3, 0, 100, [85, 86, 87], g_0), (.aload_n 0, 1, 0, 0, [], g_0), (.iconst 3, 1, 3, 0, [], g_0), (.anewarray 9, 3, 24, 2, [88], g_0), (.putfield 11, 3, 7, 0, [290], g_0), (.aload_n 0, 1, 0, 0, [], g_0), (.new 15, 3, 2, 0, [90, 91, 68], g_0), (.dup, 1, 0, 0, [], g_0), (.invokespecial 17, 3, 0, 2, [92, 0, 93, 68, 94], g_0), (.putfield 18, 3, 7, 1, [291], g_0), (.aload_n 0, 1, 0, 0, [], g_0), (.new 22, 3, 5, 0, [185, 186, 71], g_0), (.dup, 1, 0, 0, [], g_0), (.aload_n 0, 1, 0, 0, [], g_0), (.getfield 18, 3, 7, 1, [291], g_0), (.invokespecial 24, 3, 1, 5, [187, 0, 188, 71, 189], g_0), (.putfield 27, 3, 7, 2, [292], g_0), (.aload_n 0, 1, 0, 0, [], g_0), (.new 22, 3, 5, 0, [185, 186, 71], g_0), (.dup, 1, 0, 0, [], g_0), (.aload_n 0, 1, 0, 0, [], g_0), (.getfield 18, 3, 7, 1, [291], g_0), (.invokespecial 24, 3, 1, 5, [187, 0, 188, 71, 189], g_0), (.putfield 31, 3, 7, 3, [293], g_0), (.aload_n 0, 1, 0, 0, [], g_0), (.bipush 10, 2, 10, 0, [], g_0), (.anewarray 34, 3, 25, 3, [221], g_0), (.putfield 36, 3, 7, 4, [294], g_0), (.aload_n 0, 1, 0, 0, [], g_0), (.new 40, 3, 4, 0, [223, 224, 73], g_0), (.dup, 1, 0, 0, [], g_0), (.invokespecial 42, 3, 0, 4, [225, 1, 226, 73, 227], g_0), (.putfield 43, 3, 7, 5, [295], g_0), (.aload_n 0, 1, 0, 0, [], g_0), (.iconst 4, 1, 4, 0, [], g_0), (.anewarray 47, 3, 26, 4, [243], g_0), (.putfield 49, 3, 7, 6, [296], g_0), (.aload_n 0, 1, 0, 0, [], g_0), (.bipush 20, 2, 20, 0, [], g_0), (.newarray .int, 2, 27, 0, [134], g_0), (.putfield 53, 3, 7, 7, [297], g_0), (.aload_n 0, 1, 0, 0, [], g_0), (.bipush 54, 2, 54, 0, [], g_0), (.newarray .int, 2, 28, 0, [134], g_0), (.putfield 57, 3, 7, 8, [298], g_0), (.aload_n 0, 1, 0, 0, [], g_0), (.iconst 3, 1, 3, 0, [], g_0), (.newarray .int, 2, 29, 0, [134], g_0), (.putfield 60, 3, 7, 9, [299], g_0), (.aload_n 0, 1, 0, 0, [], g_0), (.iconst 2, 1, 2, 0, [], g_0), (.newarray .long, 2, 30, 1, [266], g_0), (.putfield 63, 3, 7, 10, [300], g_0), (.aload_n 0, 1, 0, 0, [], g_0), (.iconst 0, 1, 0, 0, [], g_0), (.putfield 67, 3, 7, 11, [301], g_0), (.aload_n 0, 1, 0, 0, [], g_0), (.iconst 0, 1, 0, 0, [], g_0), (.putfield 71, 3, 7, 12, [302], g_0), (.aload_n 0, 1, 0, 0, [], g_0), (.getfield 11, 3, 7, 0, [290], g_0), (.iconst 0, 1, 0, 0, [], g_0), (.new 9, 3, 6, 0, [88, 245, 74], g_0), (.dup, 1, 0, 0, [], g_0), (.bipush 79, 2, 79, 0, [], g_0), (.invokespecial 75, 3, 1, 6, [246, 0, 247, 74, 248], g_0), (.aastore, 1, 0, 0, [], g_0), (.aload_n 0, 1, 0, 0, [], g_0), (.getfield 11, 3, 7, 0, [290], g_0), (.iconst 1, 1, 1, 0, [], g_0), (.new 9, 3, 6, 0, [88, 245, 74], g_0), (.dup, 1, 0, 0, [], g_0), (.bipush 20, 2, 20, 0, [], g_0), (.invokespecial 75, 3, 1, 6, [246, 0, 247, 74, 248], g_0), (.aastore, 1, 0, 0, [], g_0), (.aload_n 0, 1, 0, 0, [], g_0), (.getfield 11, 3, 7, 0, [290], g_0), (.iconst 2, 1, 2, 0, [], g_0), (.new 9, 3, 6, 0, [88, 245, 74], g_0), (.dup, 1, 0, 0, [], g_0), (.bipush 6, 2, 6, 0, [], g_0), (.invokespecial 75, 3, 1, 6, [246, 0, 247, 74, 248], g_0), (.aastore, 1, 0, 0, [], g_0), (.iconst 0, 1, 0, 0, [], g_0), (.istore_n 1, 1, 1, 0, [], g_0)]
def bk_W_init_1 : List En := [(.iload_n 1, 1, 1, 0, [], g_0), (.aload_n 0, 1, 0, 0, [], g_0), (.getfield 36, 3, 7, 4, [294], g_0), (.arraylength, 1, 0, 0, [], g_0), (.if_icmp .ge 22, 3, 2, 0, [], g_0), (.aload_n 0, 1, 0, 0, [], g_0), (.getfield 36, 3, 7, 4, [294], g_0), (.iload_n 1, 1, 1, 0, [], g_0), (.new 34, 3, 1, 0, [221, 192, 72], g_0), (.dup, 1, 0, 0, [], g_0), (.invokespecial 78, 3, 0, 1, [267, 1, 194, 72, 195], g_0), (.aastore, 1, 0, 0, [], g_0), (.iinc 1 1, 3, 1, 1, [0], g_0), (.goto (-25), 3, 1, 0, [], g_0)]
def bk_W_init_2 : List En := [(.iconst 0, 1, 0, 0, [], g_0), (.istore_n 1, 1, 1, 0, [], g_0)]
def bk_W_init_3 : List En := [(.iload_n 1, 1, 1, 0, [], g_0), (.aload_n 0, 1, 0, 0, [], g_0), (.getfield 49, 3, 7, 6, [296], g_0), (.arraylength, 1, 0, 0, [], g_0), (.if_icmp .ge 22, 3, 4, 0, [], g_0), (.aload_n 0, 1, 0, 0, [], g_0), (.getfield 49, 3, 7, 6, [296], g_0), (.iload_n 1, 1, 1, 0, [], g_0), (.new 47, 3, 3, 0, [243, 268, 76], g_0), (.dup, 1, 0, 0, [], g_0), (.invokespecial 79, 3, 0, 3, [269, 1, 270, 76, 271], g_0), (.aastore, 1, 0, 0, [], g_0), (.iinc 1 1, 3, 1, 1, [0], g_0), (.goto (-25), 3, 3, 0, [], g_0)]
def bk_W_init_4 : List En := [(.return_, 1, 0, 0, [], g_0)]
def cd_W_init : Cd := [(0, bk_W_init_0), (168, bk_W_init_1), (196, bk_W_init_2), (198, bk_W_init_3), (226, bk_W_init_4), (227, [])]
def Y_W_init : Mth := (g_W_init, RW, cd_W_init)
def g_M_init : Sg := (⟨RM, "<init>", "()V"⟩, prog_10_method_1_code, 2, none)
def bk_M_init_0 : List En := [(.aload_n 0, 1, 0, 0, [], g_0), (.invokespecial 1, 3, 0, 100, [750, 86, 87], g_0), (.aload_n 0, 1, 0, 0, [], g_0), (.iconst 4, 1, 4, 0, [], g_0), (.newarray .int, 2, 31, 0, [134], g_0), (.putfield 7, 3, 8, 0, [751], g_0), (.aload_n 0, 1, 0, 0, [], g_0), (.iconst 4, 1, 4, 0, [], g_0), (.newarray .int, 2, 32, 0, [134], g_0), (.putfield 13, 3, 8, 1, [752], g_0), (.aload_n 0, 1, 0, 0, [], g_0), (.sipush 240, 3, 240, 0, [], g_0), (.newarray .int, 2, 33, 0, [134], g_0), (.putfield 16, 3, 8, 2, [753], g_0), (.aload_n 0, 1, 0, 0, [], g_0), (.bipush 60, 2, 60, 0, [], g_0), (.newarray .int, 2, 34, 0, [134], g_0), (.putfield 19, 3, 8, 3, [754], g_0), (.aload_n 0, 1, 0, 0, [], g_0), (.sipush 240, 3, 240, 0, [], g_0), (.newarray .int, 2, 35, 0, [134], g_0), (.putfield 22, 3, 8, 5, [756], g_0), (.aload_n 0, 1, 0, 0, [], g_0), (.iconst 3, 1, 3, 0, [], g_0), (.newarray .int, 2, 36, 0, [134], g_0), (.putfield 25, 3, 8, 6, [757], g_0), (.aload_n 0, 1, 0, 0, [], g_0), (.bipush 40, 2, 40, 0, [], g_0), (.newarray .int, 2, 37, 0, [134], g_0), (.putfield 28, 3, 8, 8, [759], g_0), (.aload_n 0, 1, 0, 0, [], g_0), (.bipush 32, 2, 32, 0, [], g_0), (.newarray .int, 2, 38, 0, [134], g_0), (.putfield 31, 3, 8, 9, [760], g_0), (.aload_n 0, 1, 0, 0, [], g_0), (.bipush 20, 2, 20, 0, [], g_0), (.newarray .int, 2, 39, 0, [134], g_0), (.putfield 34, 3, 8, 11, [762], g_0), (.aload_n 0, 1, 0, 0, [], g_0), (.bipush 6, 2, 6, 0, [], g_0), (.newarray .int, 2, 40, 0, [134], g_0), (.putfield 37, 3, 8, 12, [763], g_0), (.aload_n 0, 1, 0, 0, [], g_0), (.bipush 16, 2, 16, 0, [], g_0), (.newarray .int, 2, 41, 0, [134], g_0), (.putfield 40, 3, 8, 14, [765], g_0), (.aload_n 0, 1, 0, 0, [], g_0), (.bipush 6, 2, 6, 0, [], g_0), (.newarray .int, 2, 42, 0, [134], g_0), (.putfield 43, 3, 8, 19, [770], g_0), (.aload_n 0, 1, 0, 0, [], g_0), (.bipush 48, 2, 48, 0, [], g_0), (.newarray .int, 2, 43, 0, [134], g_0), (.putfield 46, 3, 8, 20, [771], g_0), (.aload_n 0, 1, 0, 0, [], g_0), (.bipush 48, 2, 48, 0, [], g_0), (.newarray .int, 2, 44, 0, [134], g_0), (.putfield 49, 3, 8, 21, [772], g_0), (.aload_n 0, 1, 0, 0, [], g_0), (.sipush 720, 3, 720, 0, [], g_0), (.newarray .int, 2, 45, 0, [134], g_0), (.putfield 52, 3, 8, 22, [773], g_0), (.aload_n 0, 1, 0, 0, [], g_0), (.bipush 24, 2, 24, 0, [], g_0), (.newarray .int, 2, 46, 0, [134], g_0), (.putfield 55, 3, 8, 24, [775], g_0), (.aload_n 0, 1, 0, 0, [], g_0), (.bipush 54, 2, 54, 0, [], g_0), (.newarray .int, 2, 47, 0, [134], g_0), (.putfield 58, 3, 8, 25, [776], g_0), (.aload_n 0, 1, 0, 0, [], g_0), (.bipush 20, 2, 20, 0, [], g_0), (.newarray .int, 2, 48, 0, [134], g_0), (.putfield 61, 3, 8, 26, [777], g_0), (.iconst 0, 1, 0, 0, [], g_0), (.istore_n 1, 1, 1, 0, [], g_0)]
def bk_M_init_1 : List En := [(.iload_n 1, 1, 1, 0, [], g_0), (.iconst 4, 1, 4, 0, [], g_0), (.if_icmp .ge 16, 3, 2, 0, [], g_0), (.aload_n 0, 1, 0, 0, [], g_0), (.getfield 7, 3, 8, 0, [751], g_0), (.iload_n 1, 1, 1, 0, [], g_0), (.iconst (-1), 1, 1, 1, [], g_0), (.iastore, 1, 0, 0, [], g_0), (.iinc 1 1, 3, 1, 1, [0], g_0), (.goto (-15), 3, 1, 0, [], g_0)]
def bk_M_init_2 : List En := [(.aload_n 0, 1, 0, 0, [], g_0), (.iconst (-1), 1, 1, 1, [], g_0), (.putfield 64, 3, 8, 16, [767], g_0), (.return_, 1, 0, 0, [], g_0)]
def cd_M_init : Cd := [(0, bk_M_init_0), (150, bk_M_init_1), (168, bk_M_init_2), (174, [])]
def Y_M_init : Mth := (g_M_init, RM, cd_M_init)
def inI : INI := fun k => match k with
  | 0 => some (Y_B_init, 10, 1000)
  | 1 => some (Y_P_init, 10, 1000)
  | 2 => some (Y_N_init, 200, 20000)
  | 3 => some (Y_R_init, 10, 1000)
  | 4 => some (Y_S_init, 10, 1000)
  | 5 => some (Y_T_init, 50, 5000)
  | 6 => some (Y_X_init, 10, 1000)
  | 7 => some (Y_W_init, 2000, 200000)
  | 8 => some (Y_M_init, 100, 10000)
  | 9 => some (Y_J_fill, 0, 0)
  | _ => none
set_option maxRecDepth 20000 in
theorem okI_B_init : okMB inI Y_B_init = true := by decide +kernel
set_option maxRecDepth 20000 in
theorem okI_P_init : okMB inI Y_P_init = true := by decide +kernel
set_option maxRecDepth 20000 in
theorem okI_N_init : okMB inI Y_N_init = true := by decide +kernel
set_option maxRecDepth 20000 in
theorem okI_R_init : okMB inI Y_R_init = true := by decide +kernel
set_option maxRecDepth 20000 in
theorem okI_S_init : okMB inI Y_S_init = true := by decide +kernel
set_option maxRecDepth 20000 in
theorem okI_T_init : okMB inI Y_T_init = true := by decide +kernel
set_option maxRecDepth 20000 in
theorem okI_X_init : okMB inI Y_X_init = true := by decide +kernel
set_option maxRecDepth 20000 in
theorem okI_W_init : okMB inI Y_W_init = true := by decide +kernel
set_option maxRecDepth 20000 in
theorem okI_M_init : okMB inI Y_M_init = true := by decide +kernel
set_option maxRecDepth 20000 in
theorem okI_J_fill : okMB inI Y_J_fill = true := by decide +kernel
theorem inI_ok : ∀ (k : Nat) (q : Mth × Nat × Nat), inI k = some q → okMB inI q.1 = true := by
  intro k q h
  match k, h with
  | 0, h => cases h; exact okI_B_init
  | 1, h => cases h; exact okI_P_init
  | 2, h => cases h; exact okI_N_init
  | 3, h => cases h; exact okI_R_init
  | 4, h => cases h; exact okI_S_init
  | 5, h => cases h; exact okI_T_init
  | 6, h => cases h; exact okI_X_init
  | 7, h => cases h; exact okI_W_init
  | 8, h => cases h; exact okI_M_init
  | 9, h => cases h; exact okI_J_fill
  | k + 10, h => cases h
-- the objects that the law makes, before their constructors, and behind them
def h0 : BH := [((7, 0), .inl (dfl 7))]
def hW : Option BH := ev inI 3000 3 2000 200000 Y_W_init (esOf Y_W_init.2.2 0) 0 (argL [.inr (.inr (7, 0))] 2) [] h0 0 0
def h1 : BH := hW.getD []
def h2 : BH := h1 ++ [((8, 0), .inl (dfl 8))]
def hM : Option BH := ev inI 3000 3 100 10000 Y_M_init (esOf Y_M_init.2.2 0) 0 (argL [.inr (.inr (8, 0))] 2) [] h2 0 0
def h3 : BH := hM.getD []
set_option maxRecDepth 100000 in
theorem hW_ok : hW.isSome = true := by decide +kernel
set_option maxRecDepth 100000 in
theorem hM_ok : hM.isSome = true := by decide +kernel
theorem hW_eq : hW = some h1 := by
  unfold h1
  cases h : hW with
  | none => have := hW_ok; rw [h] at this; cases this
  | some x => rfl
theorem hM_eq : hM = some h3 := by
  unfold h3
  cases h : hM with
  | none => have := hM_ok; rw [h] at this; cases this
  | some x => rfl
/-- is a cell as the layout has it -/
def finC (q : Nat × Nat) (c : BC) : Bool := match c with
  | .inl fs => decide (q.1 < 9) && decide (fs.length = NF q.1) && (List.range (NF q.1)).all (fun k => match fk q.1 k with
      | none => (match fs.getD k none with
        | some (.inl _) => true
        | _ => false)
      | some (c', none) => decide (fs.getD k none = some (.inr (.inr (c', q.2))))
      | some (c', some z) => decide (fs.getD k none = some (.inr (.inr (c', z)))))
  | .inr (.inl (n, _)) => ia q.1 && decide (n = ln q.1 q.2)
  | .inr (.inr (.inl n)) => decide (q.1 = 30) && decide (n = 2)
  | .inr (.inr (.inr (k, n, w))) => (match ra q.1 with
      | some (c', o, n', k') => decide (n = n') && decide (k = k') && (List.range n).all (fun j => decide (lkR w j = some (c', o + j)))
      | none => false)
def finH (h : BH) : Bool := CI.all (fun q => match bix h q with
  | some x => finC q x.2
  | none => false)
set_option maxRecDepth 100000 in
theorem h3_ok : finH h3 = true := by decide +kernel
theorem evW : ev inI 3000 3 2000 200000 Y_W_init (esOf Y_W_init.2.2 0) 0 (argL [.inr (.inr (7, 0))] Y_W_init.1.2.2.1) [] h0 0 0 = some h1 := hW_eq
theorem evM : ev inI 3000 3 100 10000 Y_M_init (esOf Y_M_init.2.2 0) 0 (argL [.inr (.inr (8, 0))] Y_M_init.1.2.2.1) [] h2 0 0 = some h3 := hM_eq
def keyB (h : BH) : Bool := h.all (fun e => decide (e.1 ≠ (8, 0)) && nrC (8, 0) e.2) && inKV h (.inr (.inr (7, 0)))
set_option maxRecDepth 100000 in
theorem h1_key : keyB h1 = true := by decide +kernel
