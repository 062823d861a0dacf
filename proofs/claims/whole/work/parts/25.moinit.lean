/-! Mo_init -/
abbrev m_Mo_init : sv_M := (yX12_init, cX12_init, 1, none)
def t_Mo_init : List (Nat × Instr × Nat) := [(0, .aload_n 0, 1), (1, .invokespecial 1, 3), (4, .aload_n 0, 1), (5, .iconst 0, 1), (6, .putfield 7, 3), (9, .aload_n 0, 1), (10, .iconst 0, 1), (11, .putfield 13, 3), (14, .aload_n 0, 1), (15, .bipush 40, 2), (17, .newarray .int, 2), (19, .putfield 16, 3), (22, .aload_n 0, 1), (23, .bipush 40, 2), (25, .newarray .int, 2), (27, .putfield 20, 3), (30, .aload_n 0, 1), (31, .bipush 40, 2), (33, .newarray .int, 2), (35, .putfield 23, 3), (38, .aload_n 0, 1), (39, .bipush 40, 2), (41, .newarray .int, 2), (43, .putfield 26, 3), (46, .aload_n 0, 1), (47, .sipush 256, 3), (50, .newarray .int, 2), (52, .putfield 29, 3), (55, .aload_n 0, 1), (56, .sipush 256, 3), (59, .newarray .int, 2), (61, .putfield 32, 3), (64, .aload_n 0, 1), (65, .bipush 16, 2), (67, .newarray .int, 2), (69, .putfield 35, 3), (72, .aload_n 0, 1), (73, .iconst 0, 1), (74, .putfield 38, 3), (77, .aload_n 0, 1), (78, .iconst 0, 1), (79, .putfield 41, 3), (82, .aload_n 0, 1), (83, .iconst 0, 1), (84, .putfield 44, 3), (87, .aload_n 0, 1), (88, .bipush 16, 2), (90, .newarray .int, 2), (92, .putfield 47, 3), (95, .aload_n 0, 1), (96, .bipush 16, 2), (98, .newarray .int, 2), (100, .putfield 50, 3), (103, .aload_n 0, 1), (104, .sipush 2380, 3), (107, .newarray .int, 2), (109, .putfield 53, 3), (112, .aload_n 0, 1), (113, .bipush 17, 2), (115, .newarray .int, 2), (117, .putfield 56, 3), (120, .aload_n 0, 1), (121, .bipush 20, 2), (123, .newarray .int, 2), (125, .putfield 59, 3), (128, .aload_n 0, 1), (129, .bipush 10, 2), (131, .newarray .int, 2), (133, .putfield 62, 3), (136, .aload_n 0, 1), (137, .iconst 5, 1), (138, .newarray .int, 2), (140, .putfield 65, 3), (143, .aload_n 0, 1), (144, .iconst 0, 1), (145, .putfield 68, 3), (148, .aload_n 0, 1), (149, .iconst 1, 1), (150, .putfield 72, 3), (153, .aload_n 0, 1), (154, .iconst 0, 1), (155, .putfield 75, 3), (158, .aload_n 0, 1), (159, .bipush 7, 2), (161, .newarray .int, 2), (163, .putfield 78, 3), (166, .aload_n 0, 1), (167, .iconst 0, 1), (168, .putfield 81, 3), (171, .aload_n 0, 1), (172, .iconst 0, 1), (173, .putfield 84, 3), (176, .aload_n 0, 1), (177, .iconst 0, 1), (178, .putfield 87, 3), (181, .aload_n 0, 1), (182, .iconst 0, 1), (183, .putfield 90, 3), (186, .aload_n 0, 1), (187, .sipush 141, 3), (190, .newarray .int, 2), (192, .putfield 93, 3), (195, .aload_n 0, 1), (196, .sipush 141, 3), (199, .newarray .boolean, 2), (201, .putfield 96, 3), (204, .aload_n 0, 1), (205, .iconst 0, 1), (206, .putfield 100, 3), (209, .aload_n 0, 1), (210, .iconst 0, 1), (211, .putfield 103, 3), (214, .aload_n 0, 1), (215, .iconst 0, 1), (216, .putfield 106, 3), (219, .aload_n 0, 1), (220, .iconst 0, 1), (221, .putfield 109, 3), (224, .aload_n 0, 1), (225, .bipush 60, 2), (227, .newarray .int, 2), (229, .putfield 112, 3), (232, .aload_n 0, 1), (233, .bipush 60, 2), (235, .newarray .int, 2), (237, .putfield 115, 3), (240, .aload_n 0, 1), (241, .bipush 60, 2), (243, .newarray .int, 2), (245, .putfield 118, 3), (248, .aload_n 0, 1), (249, .bipush 60, 2), (251, .newarray .int, 2), (253, .putfield 121, 3), (256, .aload_n 0, 1), (257, .bipush 60, 2), (259, .newarray .int, 2), (261, .putfield 124, 3), (264, .aload_n 0, 1), (265, .bipush 60, 2), (267, .newarray .int, 2), (269, .putfield 127, 3), (272, .aload_n 0, 1), (273, .bipush 60, 2), (275, .newarray .int, 2), (277, .putfield 130, 3), (280, .aload_n 0, 1), (281, .bipush 60, 2), (283, .newarray .int, 2), (285, .putfield 133, 3), (288, .aload_n 0, 1), (289, .bipush 60, 2), (291, .newarray .int, 2), (293, .putfield 136, 3), (296, .aload_n 0, 1), (297, .bipush 60, 2), (299, .newarray .int, 2), (301, .putfield 139, 3), (304, .aload_n 0, 1), (305, .bipush 6, 2), (307, .newarray .int, 2), (309, .putfield 142, 3), (312, .aload_n 0, 1), (313, .bipush 6, 2), (315, .newarray .int, 2), (317, .putfield 145, 3), (320, .aload_n 0, 1), (321, .bipush 120, 2), (323, .newarray .int, 2), (325, .putfield 148, 3), (328, .aload_n 0, 1), (329, .bipush 60, 2), (331, .newarray .int, 2), (333, .putfield 151, 3), (336, .aload_n 0, 1), (337, .bipush 6, 2), (339, .newarray .int, 2), (341, .putfield 154, 3), (344, .aload_n 0, 1), (345, .bipush 6, 2), (347, .newarray .int, 2), (349, .putfield 157, 3), (352, .aload_n 0, 1), (353, .bipush 6, 2), (355, .newarray .int, 2), (357, .putfield 160, 3), (360, .aload_n 0, 1), (361, .iconst 0, 1), (362, .putfield 163, 3), (365, .aload_n 0, 1), (366, .iconst (-1), 1), (367, .putfield 166, 3), (370, .aload_n 0, 1), (371, .bipush 80, 2), (373, .newarray .int, 2), (375, .putfield 169, 3), (378, .aload_n 0, 1), (379, .bipush 80, 2), (381, .newarray .int, 2), (383, .putfield 172, 3), (386, .aload_n 0, 1), (387, .bipush 80, 2), (389, .newarray .int, 2), (391, .putfield 175, 3), (394, .aload_n 0, 1), (395, .bipush 80, 2), (397, .newarray .int, 2), (399, .putfield 178, 3), (402, .aload_n 0, 1), (403, .bipush 80, 2), (405, .newarray .int, 2), (407, .putfield 181, 3), (410, .aload_n 0, 1), (411, .bipush 60, 2), (413, .newarray .int, 2), (415, .putfield 184, 3), (418, .aload_n 0, 1), (419, .sipush 144, 3), (422, .newarray .int, 2), (424, .putfield 187, 3), (427, .aload_n 0, 1), (428, .iconst 0, 1), (429, .putfield 190, 3), (432, .aload_n 0, 1), (433, .iconst 0, 1), (434, .putfield 193, 3), (437, .aload_n 0, 1), (438, .iconst 0, 1), (439, .putfield 196, 3), (442, .aload_n 0, 1), (443, .bipush 8, 2), (445, .newarray .int, 2), (447, .putfield 199, 3), (450, .aload_n 0, 1), (451, .iconst 0, 1), (452, .putfield 202, 3), (455, .aload_n 0, 1), (456, .bipush 20, 2), (458, .newarray .int, 2), (460, .putfield 205, 3), (463, .aload_n 0, 1), (464, .bipush 20, 2), (466, .newarray .int, 2), (468, .putfield 208, 3), (471, .aload_n 0, 1), (472, .bipush 20, 2), (474, .newarray .int, 2), (476, .putfield 211, 3), (479, .aload_n 0, 1), (480, .bipush 20, 2), (482, .newarray .int, 2), (484, .putfield 214, 3), (487, .aload_n 0, 1), (488, .bipush 20, 2), (490, .newarray .int, 2), (492, .putfield 217, 3), (495, .aload_n 0, 1), (496, .iconst 0, 1), (497, .putfield 220, 3), (500, .aload_n 0, 1), (501, .bipush 10, 2), (503, .newarray .int, 2), (505, .putfield 223, 3), (508, .aload_n 0, 1), (509, .bipush 10, 2), (511, .newarray .int, 2), (513, .putfield 226, 3), (516, .aload_n 0, 1), (517, .bipush 10, 2), (519, .newarray .int, 2), (521, .putfield 229, 3), (524, .aload_n 0, 1), (525, .iconst 0, 1), (526, .putfield 232, 3), (529, .aload_n 0, 1), (530, .bipush 20, 2), (532, .newarray .int, 2), (534, .putfield 235, 3), (537, .aload_n 0, 1), (538, .bipush 6, 2), (540, .newarray .int, 2), (542, .dup, 1), (543, .iconst 0, 1), (544, .iconst (-1), 1), (545, .iastore, 1), (546, .dup, 1), (547, .iconst 1, 1), (548, .iconst (-1), 1), (549, .iastore, 1), (550, .dup, 1), (551, .iconst 2, 1), (552, .iconst (-1), 1), (553, .iastore, 1), (554, .dup, 1), (555, .iconst 3, 1), (556, .iconst (-1), 1), (557, .iastore, 1), (558, .dup, 1), (559, .iconst 4, 1), (560, .iconst (-1), 1), (561, .iastore, 1), (562, .dup, 1), (563, .iconst 5, 1), (564, .iconst (-1), 1), (565, .iastore, 1), (566, .putfield 238, 3), (569, .aload_n 0, 1), (570, .bipush 6, 2), (572, .newarray .int, 2), (574, .putfield 241, 3), (577, .aload_n 0, 1), (578, .sipush 480, 3), (581, .newarray .long, 2), (583, .putfield 244, 3), (586, .aload_n 0, 1), (587, .bipush 80, 2), (589, .newarray .long, 2), (591, .putfield 248, 3), (594, .return_, 1)]
theorem k_Mo_init : sv_tk m_Mo_init.2.1 t_Mo_init := by decide +kernel
theorem g_Mo_init : sv_G m_Mo_init 0 := ⟨by decide +kernel, sv_in 1300 (by decide +kernel) rfl, sv_in 103 (by decide +kernel) rfl, ⟨by decide, by decide⟩, by decide +kernel, by decide⟩
theorem in_Mo_init : Cond.instanceMethod m_Mo_init.1 ∈ sv_T := sv_in 1299 (by decide +kernel) rfl
set_option maxRecDepth 100000 in
def FD_Mo_init (a0 : Nat) (s : sv_H) : Option (sv_H) :=
  if sd_ok s a0 12 = true then
    ss_let (sv_setI s a0 0 (0 : Int32)) fun s3 =>
    if sd_ok s3 a0 12 = true then
      ss_let (sv_setI s3 a0 1 (0 : Int32)) fun s5 =>
      if sd_nb (40 : Int32) = true then
        ss_let (sv_nx s5) fun w8 =>
        ss_let (sv_mk s5 20 (40 : Int32).toNatClampNeg (40 : Int32).toNatClampNeg) fun s7 =>
        if sd_ok s7 a0 12 = true then
          ss_let (sv_setR s7 a0 2 (some w8)) fun s10 =>
          if sd_nb (40 : Int32) = true then
            ss_let (sv_nx s10) fun w13 =>
            ss_let (sv_mk s10 20 (40 : Int32).toNatClampNeg (40 : Int32).toNatClampNeg) fun s12 =>
            if sd_ok s12 a0 12 = true then
              ss_let (sv_setR s12 a0 3 (some w13)) fun s15 =>
              if sd_nb (40 : Int32) = true then
                ss_let (sv_nx s15) fun w18 =>
                ss_let (sv_mk s15 20 (40 : Int32).toNatClampNeg (40 : Int32).toNatClampNeg) fun s17 =>
                if sd_ok s17 a0 12 = true then
                  ss_let (sv_setR s17 a0 4 (some w18)) fun s20 =>
                  if sd_nb (40 : Int32) = true then
                    ss_let (sv_nx s20) fun w23 =>
                    ss_let (sv_mk s20 20 (40 : Int32).toNatClampNeg (40 : Int32).toNatClampNeg) fun s22 =>
                    if sd_ok s22 a0 12 = true then
                      ss_let (sv_setR s22 a0 5 (some w23)) fun s25 =>
                      if sd_nb (256 : Int32) = true then
                        ss_let (sv_nx s25) fun w28 =>
                        ss_let (sv_mk s25 20 (256 : Int32).toNatClampNeg (256 : Int32).toNatClampNeg) fun s27 =>
                        if sd_ok s27 a0 12 = true then
                          ss_let (sv_setR s27 a0 6 (some w28)) fun s30 =>
                          if sd_nb (256 : Int32) = true then
                            ss_let (sv_nx s30) fun w33 =>
                            ss_let (sv_mk s30 20 (256 : Int32).toNatClampNeg (256 : Int32).toNatClampNeg) fun s32 =>
                            if sd_ok s32 a0 12 = true then
                              ss_let (sv_setR s32 a0 7 (some w33)) fun s35 =>
                              if sd_nb (16 : Int32) = true then
                                ss_let (sv_nx s35) fun w38 =>
                                ss_let (sv_mk s35 20 (16 : Int32).toNatClampNeg (16 : Int32).toNatClampNeg) fun s37 =>
                                if sd_ok s37 a0 12 = true then
                                  ss_let (sv_setR s37 a0 8 (some w38)) fun s40 =>
                                  if sd_ok s40 a0 12 = true then
                                    ss_let (sv_setI s40 a0 9 (0 : Int32)) fun s42 =>
                                    if sd_ok s42 a0 12 = true then
                                      ss_let (sv_setI s42 a0 10 (0 : Int32)) fun s44 =>
                                      if sd_ok s44 a0 12 = true then
                                        ss_let (sv_setI s44 a0 11 (0 : Int32)) fun s46 =>
                                        if sd_nb (16 : Int32) = true then
                                          ss_let (sv_nx s46) fun w49 =>
                                          ss_let (sv_mk s46 20 (16 : Int32).toNatClampNeg (16 : Int32).toNatClampNeg) fun s48 =>
                                          if sd_ok s48 a0 12 = true then
                                            ss_let (sv_setR s48 a0 12 (some w49)) fun s51 =>
                                            if sd_nb (16 : Int32) = true then
                                              ss_let (sv_nx s51) fun w54 =>
                                              ss_let (sv_mk s51 20 (16 : Int32).toNatClampNeg (16 : Int32).toNatClampNeg) fun s53 =>
                                              if sd_ok s53 a0 12 = true then
                                                ss_let (sv_setR s53 a0 13 (some w54)) fun s56 =>
                                                if sd_nb (2380 : Int32) = true then
                                                  ss_let (sv_nx s56) fun w59 =>
                                                  ss_let (sv_mk s56 20 (2380 : Int32).toNatClampNeg (2380 : Int32).toNatClampNeg) fun s58 =>
                                                  if sd_ok s58 a0 12 = true then
                                                    ss_let (sv_setR s58 a0 14 (some w59)) fun s61 =>
                                                    if sd_nb (17 : Int32) = true then
                                                      ss_let (sv_nx s61) fun w64 =>
                                                      ss_let (sv_mk s61 20 (17 : Int32).toNatClampNeg (17 : Int32).toNatClampNeg) fun s63 =>
                                                      if sd_ok s63 a0 12 = true then
                                                        ss_let (sv_setR s63 a0 15 (some w64)) fun s66 =>
                                                        if sd_nb (20 : Int32) = true then
                                                          ss_let (sv_nx s66) fun w69 =>
                                                          ss_let (sv_mk s66 20 (20 : Int32).toNatClampNeg (20 : Int32).toNatClampNeg) fun s68 =>
                                                          if sd_ok s68 a0 12 = true then
                                                            ss_let (sv_setR s68 a0 16 (some w69)) fun s71 =>
                                                            if sd_nb (10 : Int32) = true then
                                                              ss_let (sv_nx s71) fun w74 =>
                                                              ss_let (sv_mk s71 20 (10 : Int32).toNatClampNeg (10 : Int32).toNatClampNeg) fun s73 =>
                                                              if sd_ok s73 a0 12 = true then
                                                                ss_let (sv_setR s73 a0 17 (some w74)) fun s76 =>
                                                                if sd_nb (5 : Int32) = true then
                                                                  ss_let (sv_nx s76) fun w79 =>
                                                                  ss_let (sv_mk s76 20 (5 : Int32).toNatClampNeg (5 : Int32).toNatClampNeg) fun s78 =>
                                                                  if sd_ok s78 a0 12 = true then
                                                                    ss_let (sv_setR s78 a0 18 (some w79)) fun s81 =>
                                                                    if sd_ok s81 a0 12 = true then
                                                                      ss_let (sv_setI s81 a0 19 (0 : Int32)) fun s83 =>
                                                                      if sd_ok s83 a0 12 = true then
                                                                        ss_let (sv_setI s83 a0 20 (1 : Int32)) fun s85 =>
                                                                        if sd_ok s85 a0 12 = true then
                                                                          ss_let (sv_setI s85 a0 21 (0 : Int32)) fun s87 =>
                                                                          if sd_nb (7 : Int32) = true then
                                                                            ss_let (sv_nx s87) fun w90 =>
                                                                            ss_let (sv_mk s87 20 (7 : Int32).toNatClampNeg (7 : Int32).toNatClampNeg) fun s89 =>
                                                                            if sd_ok s89 a0 12 = true then
                                                                              ss_let (sv_setR s89 a0 22 (some w90)) fun s92 =>
                                                                              if sd_ok s92 a0 12 = true then
                                                                                ss_let (sv_setI s92 a0 23 (0 : Int32)) fun s94 =>
                                                                                if sd_ok s94 a0 12 = true then
                                                                                  ss_let (sv_setI s94 a0 24 (0 : Int32)) fun s96 =>
                                                                                  if sd_ok s96 a0 12 = true then
                                                                                    ss_let (sv_setI s96 a0 25 (0 : Int32)) fun s98 =>
                                                                                    if sd_ok s98 a0 12 = true then
                                                                                      ss_let (sv_setI s98 a0 26 (0 : Int32)) fun s100 =>
                                                                                      if sd_nb (141 : Int32) = true then
                                                                                        ss_let (sv_nx s100) fun w103 =>
                                                                                        ss_let (sv_mk s100 20 (141 : Int32).toNatClampNeg (141 : Int32).toNatClampNeg) fun s102 =>
                                                                                        if sd_ok s102 a0 12 = true then
                                                                                          ss_let (sv_setR s102 a0 27 (some w103)) fun s105 =>
                                                                                          if sd_nb (141 : Int32) = true then
                                                                                            ss_let (sv_nx s105) fun w108 =>
                                                                                            ss_let (sv_mk s105 23 (141 : Int32).toNatClampNeg (141 : Int32).toNatClampNeg) fun s107 =>
                                                                                            if sd_ok s107 a0 12 = true then
                                                                                              ss_let (sv_setR s107 a0 28 (some w108)) fun s110 =>
                                                                                              if sd_ok s110 a0 12 = true then
                                                                                                ss_let (sv_setI s110 a0 29 (0 : Int32)) fun s112 =>
                                                                                                if sd_ok s112 a0 12 = true then
                                                                                                  ss_let (sv_setI s112 a0 30 (0 : Int32)) fun s114 =>
                                                                                                  if sd_ok s114 a0 12 = true then
                                                                                                    ss_let (sv_setI s114 a0 31 (0 : Int32)) fun s116 =>
                                                                                                    if sd_ok s116 a0 12 = true then
                                                                                                      ss_let (sv_setI s116 a0 32 (0 : Int32)) fun s118 =>
                                                                                                      if sd_nb (60 : Int32) = true then
                                                                                                        ss_let (sv_nx s118) fun w121 =>
                                                                                                        ss_let (sv_mk s118 20 (60 : Int32).toNatClampNeg (60 : Int32).toNatClampNeg) fun s120 =>
                                                                                                        if sd_ok s120 a0 12 = true then
                                                                                                          ss_let (sv_setR s120 a0 33 (some w121)) fun s123 =>
                                                                                                          if sd_nb (60 : Int32) = true then
                                                                                                            ss_let (sv_nx s123) fun w126 =>
                                                                                                            ss_let (sv_mk s123 20 (60 : Int32).toNatClampNeg (60 : Int32).toNatClampNeg) fun s125 =>
                                                                                                            if sd_ok s125 a0 12 = true then
                                                                                                              ss_let (sv_setR s125 a0 34 (some w126)) fun s128 =>
                                                                                                              if sd_nb (60 : Int32) = true then
                                                                                                                ss_let (sv_nx s128) fun w131 =>
                                                                                                                ss_let (sv_mk s128 20 (60 : Int32).toNatClampNeg (60 : Int32).toNatClampNeg) fun s130 =>
                                                                                                                if sd_ok s130 a0 12 = true then
                                                                                                                  ss_let (sv_setR s130 a0 35 (some w131)) fun s133 =>
                                                                                                                  if sd_nb (60 : Int32) = true then
                                                                                                                    ss_let (sv_nx s133) fun w136 =>
                                                                                                                    ss_let (sv_mk s133 20 (60 : Int32).toNatClampNeg (60 : Int32).toNatClampNeg) fun s135 =>
                                                                                                                    if sd_ok s135 a0 12 = true then
                                                                                                                      ss_let (sv_setR s135 a0 36 (some w136)) fun s138 =>
                                                                                                                      if sd_nb (60 : Int32) = true then
                                                                                                                        ss_let (sv_nx s138) fun w141 =>
                                                                                                                        ss_let (sv_mk s138 20 (60 : Int32).toNatClampNeg (60 : Int32).toNatClampNeg) fun s140 =>
                                                                                                                        if sd_ok s140 a0 12 = true then
                                                                                                                          ss_let (sv_setR s140 a0 37 (some w141)) fun s143 =>
                                                                                                                          if sd_nb (60 : Int32) = true then
                                                                                                                            ss_let (sv_nx s143) fun w146 =>
                                                                                                                            ss_let (sv_mk s143 20 (60 : Int32).toNatClampNeg (60 : Int32).toNatClampNeg) fun s145 =>
                                                                                                                            if sd_ok s145 a0 12 = true then
                                                                                                                              ss_let (sv_setR s145 a0 38 (some w146)) fun s148 =>
                                                                                                                              if sd_nb (60 : Int32) = true then
                                                                                                                                ss_let (sv_nx s148) fun w151 =>
                                                                                                                                ss_let (sv_mk s148 20 (60 : Int32).toNatClampNeg (60 : Int32).toNatClampNeg) fun s150 =>
                                                                                                                                if sd_ok s150 a0 12 = true then
                                                                                                                                  ss_let (sv_setR s150 a0 39 (some w151)) fun s153 =>
                                                                                                                                  if sd_nb (60 : Int32) = true then
                                                                                                                                    ss_let (sv_nx s153) fun w156 =>
                                                                                                                                    ss_let (sv_mk s153 20 (60 : Int32).toNatClampNeg (60 : Int32).toNatClampNeg) fun s155 =>
                                                                                                                                    if sd_ok s155 a0 12 = true then
                                                                                                                                      ss_let (sv_setR s155 a0 40 (some w156)) fun s158 =>
                                                                                                                                      if sd_nb (60 : Int32) = true then
                                                                                                                                        ss_let (sv_nx s158) fun w161 =>
                                                                                                                                        ss_let (sv_mk s158 20 (60 : Int32).toNatClampNeg (60 : Int32).toNatClampNeg) fun s160 =>
                                                                                                                                        if sd_ok s160 a0 12 = true then
                                                                                                                                          ss_let (sv_setR s160 a0 41 (some w161)) fun s163 =>
                                                                                                                                          if sd_nb (60 : Int32) = true then
                                                                                                                                            ss_let (sv_nx s163) fun w166 =>
                                                                                                                                            ss_let (sv_mk s163 20 (60 : Int32).toNatClampNeg (60 : Int32).toNatClampNeg) fun s165 =>
                                                                                                                                            if sd_ok s165 a0 12 = true then
                                                                                                                                              ss_let (sv_setR s165 a0 42 (some w166)) fun s168 =>
                                                                                                                                              if sd_nb (6 : Int32) = true then
                                                                                                                                                ss_let (sv_nx s168) fun w171 =>
                                                                                                                                                ss_let (sv_mk s168 20 (6 : Int32).toNatClampNeg (6 : Int32).toNatClampNeg) fun s170 =>
                                                                                                                                                if sd_ok s170 a0 12 = true then
                                                                                                                                                  ss_let (sv_setR s170 a0 43 (some w171)) fun s173 =>
                                                                                                                                                  if sd_nb (6 : Int32) = true then
                                                                                                                                                    ss_let (sv_nx s173) fun w176 =>
                                                                                                                                                    ss_let (sv_mk s173 20 (6 : Int32).toNatClampNeg (6 : Int32).toNatClampNeg) fun s175 =>
                                                                                                                                                    if sd_ok s175 a0 12 = true then
                                                                                                                                                      ss_let (sv_setR s175 a0 44 (some w176)) fun s178 =>
                                                                                                                                                      if sd_nb (120 : Int32) = true then
                                                                                                                                                        ss_let (sv_nx s178) fun w181 =>
                                                                                                                                                        ss_let (sv_mk s178 20 (120 : Int32).toNatClampNeg (120 : Int32).toNatClampNeg) fun s180 =>
                                                                                                                                                        if sd_ok s180 a0 12 = true then
                                                                                                                                                          ss_let (sv_setR s180 a0 45 (some w181)) fun s183 =>
                                                                                                                                                          if sd_nb (60 : Int32) = true then
                                                                                                                                                            ss_let (sv_nx s183) fun w186 =>
                                                                                                                                                            ss_let (sv_mk s183 20 (60 : Int32).toNatClampNeg (60 : Int32).toNatClampNeg) fun s185 =>
                                                                                                                                                            if sd_ok s185 a0 12 = true then
                                                                                                                                                              ss_let (sv_setR s185 a0 46 (some w186)) fun s188 =>
                                                                                                                                                              if sd_nb (6 : Int32) = true then
                                                                                                                                                                ss_let (sv_nx s188) fun w191 =>
                                                                                                                                                                ss_let (sv_mk s188 20 (6 : Int32).toNatClampNeg (6 : Int32).toNatClampNeg) fun s190 =>
                                                                                                                                                                if sd_ok s190 a0 12 = true then
                                                                                                                                                                  ss_let (sv_setR s190 a0 47 (some w191)) fun s193 =>
                                                                                                                                                                  if sd_nb (6 : Int32) = true then
                                                                                                                                                                    ss_let (sv_nx s193) fun w196 =>
                                                                                                                                                                    ss_let (sv_mk s193 20 (6 : Int32).toNatClampNeg (6 : Int32).toNatClampNeg) fun s195 =>
                                                                                                                                                                    if sd_ok s195 a0 12 = true then
                                                                                                                                                                      ss_let (sv_setR s195 a0 48 (some w196)) fun s198 =>
                                                                                                                                                                      if sd_nb (6 : Int32) = true then
                                                                                                                                                                        ss_let (sv_nx s198) fun w201 =>
                                                                                                                                                                        ss_let (sv_mk s198 20 (6 : Int32).toNatClampNeg (6 : Int32).toNatClampNeg) fun s200 =>
                                                                                                                                                                        if sd_ok s200 a0 12 = true then
                                                                                                                                                                          ss_let (sv_setR s200 a0 49 (some w201)) fun s203 =>
                                                                                                                                                                          if sd_ok s203 a0 12 = true then
                                                                                                                                                                            ss_let (sv_setI s203 a0 50 (0 : Int32)) fun s205 =>
                                                                                                                                                                            if sd_ok s205 a0 12 = true then
                                                                                                                                                                              ss_let (sv_setI s205 a0 51 (-1 : Int32)) fun s207 =>
                                                                                                                                                                              if sd_nb (80 : Int32) = true then
                                                                                                                                                                                ss_let (sv_nx s207) fun w210 =>
                                                                                                                                                                                ss_let (sv_mk s207 20 (80 : Int32).toNatClampNeg (80 : Int32).toNatClampNeg) fun s209 =>
                                                                                                                                                                                if sd_ok s209 a0 12 = true then
                                                                                                                                                                                  ss_let (sv_setR s209 a0 52 (some w210)) fun s212 =>
                                                                                                                                                                                  if sd_nb (80 : Int32) = true then
                                                                                                                                                                                    ss_let (sv_nx s212) fun w215 =>
                                                                                                                                                                                    ss_let (sv_mk s212 20 (80 : Int32).toNatClampNeg (80 : Int32).toNatClampNeg) fun s214 =>
                                                                                                                                                                                    if sd_ok s214 a0 12 = true then
                                                                                                                                                                                      ss_let (sv_setR s214 a0 53 (some w215)) fun s217 =>
                                                                                                                                                                                      if sd_nb (80 : Int32) = true then
                                                                                                                                                                                        ss_let (sv_nx s217) fun w220 =>
                                                                                                                                                                                        ss_let (sv_mk s217 20 (80 : Int32).toNatClampNeg (80 : Int32).toNatClampNeg) fun s219 =>
                                                                                                                                                                                        if sd_ok s219 a0 12 = true then
                                                                                                                                                                                          ss_let (sv_setR s219 a0 54 (some w220)) fun s222 =>
                                                                                                                                                                                          if sd_nb (80 : Int32) = true then
                                                                                                                                                                                            ss_let (sv_nx s222) fun w225 =>
                                                                                                                                                                                            ss_let (sv_mk s222 20 (80 : Int32).toNatClampNeg (80 : Int32).toNatClampNeg) fun s224 =>
                                                                                                                                                                                            if sd_ok s224 a0 12 = true then
                                                                                                                                                                                              ss_let (sv_setR s224 a0 55 (some w225)) fun s227 =>
                                                                                                                                                                                              if sd_nb (80 : Int32) = true then
                                                                                                                                                                                                ss_let (sv_nx s227) fun w230 =>
                                                                                                                                                                                                ss_let (sv_mk s227 20 (80 : Int32).toNatClampNeg (80 : Int32).toNatClampNeg) fun s229 =>
                                                                                                                                                                                                if sd_ok s229 a0 12 = true then
                                                                                                                                                                                                  ss_let (sv_setR s229 a0 56 (some w230)) fun s232 =>
                                                                                                                                                                                                  if sd_nb (60 : Int32) = true then
                                                                                                                                                                                                    ss_let (sv_nx s232) fun w235 =>
                                                                                                                                                                                                    ss_let (sv_mk s232 20 (60 : Int32).toNatClampNeg (60 : Int32).toNatClampNeg) fun s234 =>
                                                                                                                                                                                                    if sd_ok s234 a0 12 = true then
                                                                                                                                                                                                      ss_let (sv_setR s234 a0 57 (some w235)) fun s237 =>
                                                                                                                                                                                                      if sd_nb (144 : Int32) = true then
                                                                                                                                                                                                        ss_let (sv_nx s237) fun w240 =>
                                                                                                                                                                                                        ss_let (sv_mk s237 20 (144 : Int32).toNatClampNeg (144 : Int32).toNatClampNeg) fun s239 =>
                                                                                                                                                                                                        if sd_ok s239 a0 12 = true then
                                                                                                                                                                                                          ss_let (sv_setR s239 a0 58 (some w240)) fun s242 =>
                                                                                                                                                                                                          if sd_ok s242 a0 12 = true then
                                                                                                                                                                                                            ss_let (sv_setI s242 a0 59 (0 : Int32)) fun s244 =>
                                                                                                                                                                                                            if sd_ok s244 a0 12 = true then
                                                                                                                                                                                                              ss_let (sv_setI s244 a0 60 (0 : Int32)) fun s246 =>
                                                                                                                                                                                                              if sd_ok s246 a0 12 = true then
                                                                                                                                                                                                                ss_let (sv_setI s246 a0 61 (0 : Int32)) fun s248 =>
                                                                                                                                                                                                                if sd_nb (8 : Int32) = true then
                                                                                                                                                                                                                  ss_let (sv_nx s248) fun w251 =>
                                                                                                                                                                                                                  ss_let (sv_mk s248 20 (8 : Int32).toNatClampNeg (8 : Int32).toNatClampNeg) fun s250 =>
                                                                                                                                                                                                                  if sd_ok s250 a0 12 = true then
                                                                                                                                                                                                                    ss_let (sv_setR s250 a0 62 (some w251)) fun s253 =>
                                                                                                                                                                                                                    if sd_ok s253 a0 12 = true then
                                                                                                                                                                                                                      ss_let (sv_setI s253 a0 63 (0 : Int32)) fun s255 =>
                                                                                                                                                                                                                      if sd_nb (20 : Int32) = true then
                                                                                                                                                                                                                        ss_let (sv_nx s255) fun w258 =>
                                                                                                                                                                                                                        ss_let (sv_mk s255 20 (20 : Int32).toNatClampNeg (20 : Int32).toNatClampNeg) fun s257 =>
                                                                                                                                                                                                                        if sd_ok s257 a0 12 = true then
                                                                                                                                                                                                                          ss_let (sv_setR s257 a0 64 (some w258)) fun s260 =>
                                                                                                                                                                                                                          if sd_nb (20 : Int32) = true then
                                                                                                                                                                                                                            ss_let (sv_nx s260) fun w263 =>
                                                                                                                                                                                                                            ss_let (sv_mk s260 20 (20 : Int32).toNatClampNeg (20 : Int32).toNatClampNeg) fun s262 =>
                                                                                                                                                                                                                            if sd_ok s262 a0 12 = true then
                                                                                                                                                                                                                              ss_let (sv_setR s262 a0 65 (some w263)) fun s265 =>
                                                                                                                                                                                                                              if sd_nb (20 : Int32) = true then
                                                                                                                                                                                                                                ss_let (sv_nx s265) fun w268 =>
                                                                                                                                                                                                                                ss_let (sv_mk s265 20 (20 : Int32).toNatClampNeg (20 : Int32).toNatClampNeg) fun s267 =>
                                                                                                                                                                                                                                if sd_ok s267 a0 12 = true then
                                                                                                                                                                                                                                  ss_let (sv_setR s267 a0 66 (some w268)) fun s270 =>
                                                                                                                                                                                                                                  if sd_nb (20 : Int32) = true then
                                                                                                                                                                                                                                    ss_let (sv_nx s270) fun w273 =>
                                                                                                                                                                                                                                    ss_let (sv_mk s270 20 (20 : Int32).toNatClampNeg (20 : Int32).toNatClampNeg) fun s272 =>
                                                                                                                                                                                                                                    if sd_ok s272 a0 12 = true then
                                                                                                                                                                                                                                      ss_let (sv_setR s272 a0 67 (some w273)) fun s275 =>
                                                                                                                                                                                                                                      if sd_nb (20 : Int32) = true then
                                                                                                                                                                                                                                        ss_let (sv_nx s275) fun w278 =>
                                                                                                                                                                                                                                        ss_let (sv_mk s275 20 (20 : Int32).toNatClampNeg (20 : Int32).toNatClampNeg) fun s277 =>
                                                                                                                                                                                                                                        if sd_ok s277 a0 12 = true then
                                                                                                                                                                                                                                          ss_let (sv_setR s277 a0 68 (some w278)) fun s280 =>
                                                                                                                                                                                                                                          if sd_ok s280 a0 12 = true then
                                                                                                                                                                                                                                            ss_let (sv_setI s280 a0 69 (0 : Int32)) fun s282 =>
                                                                                                                                                                                                                                            if sd_nb (10 : Int32) = true then
                                                                                                                                                                                                                                              ss_let (sv_nx s282) fun w285 =>
                                                                                                                                                                                                                                              ss_let (sv_mk s282 20 (10 : Int32).toNatClampNeg (10 : Int32).toNatClampNeg) fun s284 =>
                                                                                                                                                                                                                                              if sd_ok s284 a0 12 = true then
                                                                                                                                                                                                                                                ss_let (sv_setR s284 a0 70 (some w285)) fun s287 =>
                                                                                                                                                                                                                                                if sd_nb (10 : Int32) = true then
                                                                                                                                                                                                                                                  ss_let (sv_nx s287) fun w290 =>
                                                                                                                                                                                                                                                  ss_let (sv_mk s287 20 (10 : Int32).toNatClampNeg (10 : Int32).toNatClampNeg) fun s289 =>
                                                                                                                                                                                                                                                  if sd_ok s289 a0 12 = true then
                                                                                                                                                                                                                                                    ss_let (sv_setR s289 a0 71 (some w290)) fun s292 =>
                                                                                                                                                                                                                                                    if sd_nb (10 : Int32) = true then
                                                                                                                                                                                                                                                      ss_let (sv_nx s292) fun w295 =>
                                                                                                                                                                                                                                                      ss_let (sv_mk s292 20 (10 : Int32).toNatClampNeg (10 : Int32).toNatClampNeg) fun s294 =>
                                                                                                                                                                                                                                                      if sd_ok s294 a0 12 = true then
                                                                                                                                                                                                                                                        ss_let (sv_setR s294 a0 72 (some w295)) fun s297 =>
                                                                                                                                                                                                                                                        if sd_ok s297 a0 12 = true then
                                                                                                                                                                                                                                                          ss_let (sv_setI s297 a0 73 (0 : Int32)) fun s299 =>
                                                                                                                                                                                                                                                          if sd_nb (20 : Int32) = true then
                                                                                                                                                                                                                                                            ss_let (sv_nx s299) fun w302 =>
                                                                                                                                                                                                                                                            ss_let (sv_mk s299 20 (20 : Int32).toNatClampNeg (20 : Int32).toNatClampNeg) fun s301 =>
                                                                                                                                                                                                                                                            if sd_ok s301 a0 12 = true then
                                                                                                                                                                                                                                                              ss_let (sv_setR s301 a0 74 (some w302)) fun s304 =>
                                                                                                                                                                                                                                                              if sd_nb (6 : Int32) = true then
                                                                                                                                                                                                                                                                ss_let (sv_nx s304) fun w307 =>
                                                                                                                                                                                                                                                                ss_let (sv_mk s304 20 (6 : Int32).toNatClampNeg (6 : Int32).toNatClampNeg) fun s306 =>
                                                                                                                                                                                                                                                                if sd_ok s306 w307 20 = true then
                                                                                                                                                                                                                                                                  if sv_ib (0 : Int32) (sv_ln s306 w307) = true then
                                                                                                                                                                                                                                                                    ss_let (sv_setI s306 w307 (0 : Int32).toNatClampNeg (-1 : Int32)) fun s309 =>
                                                                                                                                                                                                                                                                    if sd_ok s309 w307 20 = true then
                                                                                                                                                                                                                                                                      if sv_ib (1 : Int32) (sv_ln s309 w307) = true then
                                                                                                                                                                                                                                                                        ss_let (sv_setI s309 w307 (1 : Int32).toNatClampNeg (-1 : Int32)) fun s311 =>
                                                                                                                                                                                                                                                                        if sd_ok s311 w307 20 = true then
                                                                                                                                                                                                                                                                          if sv_ib (2 : Int32) (sv_ln s311 w307) = true then
                                                                                                                                                                                                                                                                            ss_let (sv_setI s311 w307 (2 : Int32).toNatClampNeg (-1 : Int32)) fun s313 =>
                                                                                                                                                                                                                                                                            if sd_ok s313 w307 20 = true then
                                                                                                                                                                                                                                                                              if sv_ib (3 : Int32) (sv_ln s313 w307) = true then
                                                                                                                                                                                                                                                                                ss_let (sv_setI s313 w307 (3 : Int32).toNatClampNeg (-1 : Int32)) fun s315 =>
                                                                                                                                                                                                                                                                                if sd_ok s315 w307 20 = true then
                                                                                                                                                                                                                                                                                  if sv_ib (4 : Int32) (sv_ln s315 w307) = true then
                                                                                                                                                                                                                                                                                    ss_let (sv_setI s315 w307 (4 : Int32).toNatClampNeg (-1 : Int32)) fun s317 =>
                                                                                                                                                                                                                                                                                    if sd_ok s317 w307 20 = true then
                                                                                                                                                                                                                                                                                      if sv_ib (5 : Int32) (sv_ln s317 w307) = true then
                                                                                                                                                                                                                                                                                        ss_let (sv_setI s317 w307 (5 : Int32).toNatClampNeg (-1 : Int32)) fun s319 =>
                                                                                                                                                                                                                                                                                        if sd_ok s319 a0 12 = true then
                                                                                                                                                                                                                                                                                          ss_let (sv_setR s319 a0 75 (some w307)) fun s321 =>
                                                                                                                                                                                                                                                                                          if sd_nb (6 : Int32) = true then
                                                                                                                                                                                                                                                                                            ss_let (sv_nx s321) fun w324 =>
                                                                                                                                                                                                                                                                                            ss_let (sv_mk s321 20 (6 : Int32).toNatClampNeg (6 : Int32).toNatClampNeg) fun s323 =>
                                                                                                                                                                                                                                                                                            if sd_ok s323 a0 12 = true then
                                                                                                                                                                                                                                                                                              ss_let (sv_setR s323 a0 76 (some w324)) fun s326 =>
                                                                                                                                                                                                                                                                                              if sd_nb (480 : Int32) = true then
                                                                                                                                                                                                                                                                                                ss_let (sv_nx s326) fun w329 =>
                                                                                                                                                                                                                                                                                                ss_let (sv_mk s326 21 (480 : Int32).toNatClampNeg (480 : Int32).toNatClampNeg) fun s328 =>
                                                                                                                                                                                                                                                                                                if sd_ok s328 a0 12 = true then
                                                                                                                                                                                                                                                                                                  ss_let (sv_setR s328 a0 77 (some w329)) fun s331 =>
                                                                                                                                                                                                                                                                                                  if sd_nb (80 : Int32) = true then
                                                                                                                                                                                                                                                                                                    ss_let (sv_nx s331) fun w334 =>
                                                                                                                                                                                                                                                                                                    ss_let (sv_mk s331 21 (80 : Int32).toNatClampNeg (80 : Int32).toNatClampNeg) fun s333 =>
                                                                                                                                                                                                                                                                                                    if sd_ok s333 a0 12 = true then
                                                                                                                                                                                                                                                                                                      ss_let (sv_setR s333 a0 78 (some w334)) fun s336 =>
                                                                                                                                                                                                                                                                                                      some s336
                                                                                                                                                                                                                                                                                                    else none
                                                                                                                                                                                                                                                                                                  else none
                                                                                                                                                                                                                                                                                                else none
                                                                                                                                                                                                                                                                                              else none
                                                                                                                                                                                                                                                                                            else none
                                                                                                                                                                                                                                                                                          else none
                                                                                                                                                                                                                                                                                        else none
                                                                                                                                                                                                                                                                                      else none
                                                                                                                                                                                                                                                                                    else none
                                                                                                                                                                                                                                                                                  else none
                                                                                                                                                                                                                                                                                else none
                                                                                                                                                                                                                                                                              else none
                                                                                                                                                                                                                                                                            else none
                                                                                                                                                                                                                                                                          else none
                                                                                                                                                                                                                                                                        else none
                                                                                                                                                                                                                                                                      else none
                                                                                                                                                                                                                                                                    else none
                                                                                                                                                                                                                                                                  else none
                                                                                                                                                                                                                                                                else none
                                                                                                                                                                                                                                                              else none
                                                                                                                                                                                                                                                            else none
                                                                                                                                                                                                                                                          else none
                                                                                                                                                                                                                                                        else none
                                                                                                                                                                                                                                                      else none
                                                                                                                                                                                                                                                    else none
                                                                                                                                                                                                                                                  else none
                                                                                                                                                                                                                                                else none
                                                                                                                                                                                                                                              else none
                                                                                                                                                                                                                                            else none
                                                                                                                                                                                                                                          else none
                                                                                                                                                                                                                                        else none
                                                                                                                                                                                                                                      else none
                                                                                                                                                                                                                                    else none
                                                                                                                                                                                                                                  else none
                                                                                                                                                                                                                                else none
                                                                                                                                                                                                                              else none
                                                                                                                                                                                                                            else none
                                                                                                                                                                                                                          else none
                                                                                                                                                                                                                        else none
                                                                                                                                                                                                                      else none
                                                                                                                                                                                                                    else none
                                                                                                                                                                                                                  else none
                                                                                                                                                                                                                else none
                                                                                                                                                                                                              else none
                                                                                                                                                                                                            else none
                                                                                                                                                                                                          else none
                                                                                                                                                                                                        else none
                                                                                                                                                                                                      else none
                                                                                                                                                                                                    else none
                                                                                                                                                                                                  else none
                                                                                                                                                                                                else none
                                                                                                                                                                                              else none
                                                                                                                                                                                            else none
                                                                                                                                                                                          else none
                                                                                                                                                                                        else none
                                                                                                                                                                                      else none
                                                                                                                                                                                    else none
                                                                                                                                                                                  else none
                                                                                                                                                                                else none
                                                                                                                                                                              else none
                                                                                                                                                                            else none
                                                                                                                                                                          else none
                                                                                                                                                                        else none
                                                                                                                                                                      else none
                                                                                                                                                                    else none
                                                                                                                                                                  else none
                                                                                                                                                                else none
                                                                                                                                                              else none
                                                                                                                                                            else none
                                                                                                                                                          else none
                                                                                                                                                        else none
                                                                                                                                                      else none
                                                                                                                                                    else none
                                                                                                                                                  else none
                                                                                                                                                else none
                                                                                                                                              else none
                                                                                                                                            else none
                                                                                                                                          else none
                                                                                                                                        else none
                                                                                                                                      else none
                                                                                                                                    else none
                                                                                                                                  else none
                                                                                                                                else none
                                                                                                                              else none
                                                                                                                            else none
                                                                                                                          else none
                                                                                                                        else none
                                                                                                                      else none
                                                                                                                    else none
                                                                                                                  else none
                                                                                                                else none
                                                                                                              else none
                                                                                                            else none
                                                                                                          else none
                                                                                                        else none
                                                                                                      else none
                                                                                                    else none
                                                                                                  else none
                                                                                                else none
                                                                                              else none
                                                                                            else none
                                                                                          else none
                                                                                        else none
                                                                                      else none
                                                                                    else none
                                                                                  else none
                                                                                else none
                                                                              else none
                                                                            else none
                                                                          else none
                                                                        else none
                                                                      else none
                                                                    else none
                                                                  else none
                                                                else none
                                                              else none
                                                            else none
                                                          else none
                                                        else none
                                                      else none
                                                    else none
                                                  else none
                                                else none
                                              else none
                                            else none
                                          else none
                                        else none
                                      else none
                                    else none
                                  else none
                                else none
                              else none
                            else none
                          else none
                        else none
                      else none
                    else none
                  else none
                else none
              else none
            else none
          else none
        else none
      else none
    else none
  else none
set_option maxRecDepth 100000 in
theorem VD_Mo_init (E : sv_E) (d : Nat) (a0 : Nat) (s : sv_H) : sv_V E m_Mo_init (d + 1) sd_v 0 (lv_args 0 [sv_r E a0]) [] s (FD_Mo_init a0 s) := by
  show sv_V E m_Mo_init (d + 1) sd_v 0 [(0, sv_r E a0)] [] s _
  unfold FD_Mo_init
  refine sv_aload_n (pc := 0) 0 (sv_d k_Mo_init 0 rfl) rfl rfl ?_
  refine sv_objInit (pc := 1) (sv_d k_Mo_init 1 rfl) w1301 (Nat.le_of_ble_eq_true rfl) ?_
  refine sv_aload_n (pc := 4) 0 (sv_d k_Mo_init 2 rfl) rfl rfl ?_
  refine sv_iconst (pc := 5) (v := (0 : Int32)) (sv_d k_Mo_init 3 rfl) (by decide) ?_
  refine sd_gd (fun k_k2 o_k2 l_k2 => ?_)
  refine sd_putI (pc := 6) 0 (sv_d k_Mo_init 4 rfl) cf12 (by decide) rfl w1302 k_k2 o_k2 l_k2 rfl rfl (fun _ => rfl) (sd_lets (fun s3 e_s3 => ?_))
  refine sv_aload_n (pc := 9) 0 (sv_d k_Mo_init 5 rfl) rfl rfl ?_
  refine sv_iconst (pc := 10) (v := (0 : Int32)) (sv_d k_Mo_init 6 rfl) (by decide) ?_
  refine sd_gd (fun k_k4 o_k4 l_k4 => ?_)
  refine sd_putI (pc := 11) 1 (sv_d k_Mo_init 7 rfl) cf12 (by decide) rfl w1303 k_k4 o_k4 l_k4 rfl rfl (fun _ => rfl) (sd_lets (fun s5 e_s5 => ?_))
  refine sv_aload_n (pc := 14) 0 (sv_d k_Mo_init 8 rfl) rfl rfl ?_
  refine sv_bipush (pc := 15) (v := (40 : Int32)) (sv_d k_Mo_init 9 rfl) (by decide) ?_
  refine ss_grd (fun hnb => ?_)
  refine ss_letr (fun w8 e_w8 => ?_)
  refine sv_newa (pc := 17) (kk := 20) (sv_d k_Mo_init 10 rfl) rfl wa20 hnb (sd_lets (fun s7 e_s7 => ?_))
  rw [← e_w8]
  refine sd_gd (fun k_k9 o_k9 l_k9 => ?_)
  refine sd_putRF (pc := 19) 2 (sv_d k_Mo_init 11 rfl) cf12 (by decide) rfl w1304 rfl rfl k_k9 o_k9 l_k9  (fun _ => rfl) (sd_lets (fun s10 e_s10 => ?_))
  refine sv_aload_n (pc := 22) 0 (sv_d k_Mo_init 12 rfl) rfl rfl ?_
  refine sv_bipush (pc := 23) (v := (40 : Int32)) (sv_d k_Mo_init 13 rfl) (by decide) ?_
  refine ss_grd (fun hnb => ?_)
  refine ss_letr (fun w13 e_w13 => ?_)
  refine sv_newa (pc := 25) (kk := 20) (sv_d k_Mo_init 14 rfl) rfl wa20 hnb (sd_lets (fun s12 e_s12 => ?_))
  rw [← e_w13]
  refine sd_gd (fun k_k14 o_k14 l_k14 => ?_)
  refine sd_putRF (pc := 27) 3 (sv_d k_Mo_init 15 rfl) cf12 (by decide) rfl w1305 rfl rfl k_k14 o_k14 l_k14  (fun _ => rfl) (sd_lets (fun s15 e_s15 => ?_))
  refine sv_aload_n (pc := 30) 0 (sv_d k_Mo_init 16 rfl) rfl rfl ?_
  refine sv_bipush (pc := 31) (v := (40 : Int32)) (sv_d k_Mo_init 17 rfl) (by decide) ?_
  refine ss_grd (fun hnb => ?_)
  refine ss_letr (fun w18 e_w18 => ?_)
  refine sv_newa (pc := 33) (kk := 20) (sv_d k_Mo_init 18 rfl) rfl wa20 hnb (sd_lets (fun s17 e_s17 => ?_))
  rw [← e_w18]
  refine sd_gd (fun k_k19 o_k19 l_k19 => ?_)
  refine sd_putRF (pc := 35) 4 (sv_d k_Mo_init 19 rfl) cf12 (by decide) rfl w1306 rfl rfl k_k19 o_k19 l_k19  (fun _ => rfl) (sd_lets (fun s20 e_s20 => ?_))
  refine sv_aload_n (pc := 38) 0 (sv_d k_Mo_init 20 rfl) rfl rfl ?_
  refine sv_bipush (pc := 39) (v := (40 : Int32)) (sv_d k_Mo_init 21 rfl) (by decide) ?_
  refine ss_grd (fun hnb => ?_)
  refine ss_letr (fun w23 e_w23 => ?_)
  refine sv_newa (pc := 41) (kk := 20) (sv_d k_Mo_init 22 rfl) rfl wa20 hnb (sd_lets (fun s22 e_s22 => ?_))
  rw [← e_w23]
  refine sd_gd (fun k_k24 o_k24 l_k24 => ?_)
  refine sd_putRF (pc := 43) 5 (sv_d k_Mo_init 23 rfl) cf12 (by decide) rfl w1307 rfl rfl k_k24 o_k24 l_k24  (fun _ => rfl) (sd_lets (fun s25 e_s25 => ?_))
  refine sv_aload_n (pc := 46) 0 (sv_d k_Mo_init 24 rfl) rfl rfl ?_
  refine sv_sipush (pc := 47) (v := (256 : Int32)) (sv_d k_Mo_init 25 rfl) (by decide) ?_
  refine ss_grd (fun hnb => ?_)
  refine ss_letr (fun w28 e_w28 => ?_)
  refine sv_newa (pc := 50) (kk := 20) (sv_d k_Mo_init 26 rfl) rfl wa20 hnb (sd_lets (fun s27 e_s27 => ?_))
  rw [← e_w28]
  refine sd_gd (fun k_k29 o_k29 l_k29 => ?_)
  refine sd_putRF (pc := 52) 6 (sv_d k_Mo_init 27 rfl) cf12 (by decide) rfl w1308 rfl rfl k_k29 o_k29 l_k29  (fun _ => rfl) (sd_lets (fun s30 e_s30 => ?_))
  refine sv_aload_n (pc := 55) 0 (sv_d k_Mo_init 28 rfl) rfl rfl ?_
  refine sv_sipush (pc := 56) (v := (256 : Int32)) (sv_d k_Mo_init 29 rfl) (by decide) ?_
  refine ss_grd (fun hnb => ?_)
  refine ss_letr (fun w33 e_w33 => ?_)
  refine sv_newa (pc := 59) (kk := 20) (sv_d k_Mo_init 30 rfl) rfl wa20 hnb (sd_lets (fun s32 e_s32 => ?_))
  rw [← e_w33]
  refine sd_gd (fun k_k34 o_k34 l_k34 => ?_)
  refine sd_putRF (pc := 61) 7 (sv_d k_Mo_init 31 rfl) cf12 (by decide) rfl w1309 rfl rfl k_k34 o_k34 l_k34  (fun _ => rfl) (sd_lets (fun s35 e_s35 => ?_))
  refine sv_aload_n (pc := 64) 0 (sv_d k_Mo_init 32 rfl) rfl rfl ?_
  refine sv_bipush (pc := 65) (v := (16 : Int32)) (sv_d k_Mo_init 33 rfl) (by decide) ?_
  refine ss_grd (fun hnb => ?_)
  refine ss_letr (fun w38 e_w38 => ?_)
  refine sv_newa (pc := 67) (kk := 20) (sv_d k_Mo_init 34 rfl) rfl wa20 hnb (sd_lets (fun s37 e_s37 => ?_))
  rw [← e_w38]
  refine sd_gd (fun k_k39 o_k39 l_k39 => ?_)
  refine sd_putRF (pc := 69) 8 (sv_d k_Mo_init 35 rfl) cf12 (by decide) rfl w1310 rfl rfl k_k39 o_k39 l_k39  (fun _ => rfl) (sd_lets (fun s40 e_s40 => ?_))
  refine sv_aload_n (pc := 72) 0 (sv_d k_Mo_init 36 rfl) rfl rfl ?_
  refine sv_iconst (pc := 73) (v := (0 : Int32)) (sv_d k_Mo_init 37 rfl) (by decide) ?_
  refine sd_gd (fun k_k41 o_k41 l_k41 => ?_)
  refine sd_putI (pc := 74) 9 (sv_d k_Mo_init 38 rfl) cf12 (by decide) rfl w1311 k_k41 o_k41 l_k41 rfl rfl (fun _ => rfl) (sd_lets (fun s42 e_s42 => ?_))
  refine sv_aload_n (pc := 77) 0 (sv_d k_Mo_init 39 rfl) rfl rfl ?_
  refine sv_iconst (pc := 78) (v := (0 : Int32)) (sv_d k_Mo_init 40 rfl) (by decide) ?_
  refine sd_gd (fun k_k43 o_k43 l_k43 => ?_)
  refine sd_putI (pc := 79) 10 (sv_d k_Mo_init 41 rfl) cf12 (by decide) rfl w1312 k_k43 o_k43 l_k43 rfl rfl (fun _ => rfl) (sd_lets (fun s44 e_s44 => ?_))
  refine sv_aload_n (pc := 82) 0 (sv_d k_Mo_init 42 rfl) rfl rfl ?_
  refine sv_iconst (pc := 83) (v := (0 : Int32)) (sv_d k_Mo_init 43 rfl) (by decide) ?_
  refine sd_gd (fun k_k45 o_k45 l_k45 => ?_)
  refine sd_putI (pc := 84) 11 (sv_d k_Mo_init 44 rfl) cf12 (by decide) rfl w1313 k_k45 o_k45 l_k45 rfl rfl (fun _ => rfl) (sd_lets (fun s46 e_s46 => ?_))
  refine sv_aload_n (pc := 87) 0 (sv_d k_Mo_init 45 rfl) rfl rfl ?_
  refine sv_bipush (pc := 88) (v := (16 : Int32)) (sv_d k_Mo_init 46 rfl) (by decide) ?_
  refine ss_grd (fun hnb => ?_)
  refine ss_letr (fun w49 e_w49 => ?_)
  refine sv_newa (pc := 90) (kk := 20) (sv_d k_Mo_init 47 rfl) rfl wa20 hnb (sd_lets (fun s48 e_s48 => ?_))
  rw [← e_w49]
  refine sd_gd (fun k_k50 o_k50 l_k50 => ?_)
  refine sd_putRF (pc := 92) 12 (sv_d k_Mo_init 48 rfl) cf12 (by decide) rfl w1314 rfl rfl k_k50 o_k50 l_k50  (fun _ => rfl) (sd_lets (fun s51 e_s51 => ?_))
  refine sv_aload_n (pc := 95) 0 (sv_d k_Mo_init 49 rfl) rfl rfl ?_
  refine sv_bipush (pc := 96) (v := (16 : Int32)) (sv_d k_Mo_init 50 rfl) (by decide) ?_
  refine ss_grd (fun hnb => ?_)
  refine ss_letr (fun w54 e_w54 => ?_)
  refine sv_newa (pc := 98) (kk := 20) (sv_d k_Mo_init 51 rfl) rfl wa20 hnb (sd_lets (fun s53 e_s53 => ?_))
  rw [← e_w54]
  refine sd_gd (fun k_k55 o_k55 l_k55 => ?_)
  refine sd_putRF (pc := 100) 13 (sv_d k_Mo_init 52 rfl) cf12 (by decide) rfl w1315 rfl rfl k_k55 o_k55 l_k55  (fun _ => rfl) (sd_lets (fun s56 e_s56 => ?_))
  refine sv_aload_n (pc := 103) 0 (sv_d k_Mo_init 53 rfl) rfl rfl ?_
  refine sv_sipush (pc := 104) (v := (2380 : Int32)) (sv_d k_Mo_init 54 rfl) (by decide) ?_
  refine ss_grd (fun hnb => ?_)
  refine ss_letr (fun w59 e_w59 => ?_)
  refine sv_newa (pc := 107) (kk := 20) (sv_d k_Mo_init 55 rfl) rfl wa20 hnb (sd_lets (fun s58 e_s58 => ?_))
  rw [← e_w59]
  refine sd_gd (fun k_k60 o_k60 l_k60 => ?_)
  refine sd_putRF (pc := 109) 14 (sv_d k_Mo_init 56 rfl) cf12 (by decide) rfl w1316 rfl rfl k_k60 o_k60 l_k60  (fun _ => rfl) (sd_lets (fun s61 e_s61 => ?_))
  refine sv_aload_n (pc := 112) 0 (sv_d k_Mo_init 57 rfl) rfl rfl ?_
  refine sv_bipush (pc := 113) (v := (17 : Int32)) (sv_d k_Mo_init 58 rfl) (by decide) ?_
  refine ss_grd (fun hnb => ?_)
  refine ss_letr (fun w64 e_w64 => ?_)
  refine sv_newa (pc := 115) (kk := 20) (sv_d k_Mo_init 59 rfl) rfl wa20 hnb (sd_lets (fun s63 e_s63 => ?_))
  rw [← e_w64]
  refine sd_gd (fun k_k65 o_k65 l_k65 => ?_)
  refine sd_putRF (pc := 117) 15 (sv_d k_Mo_init 60 rfl) cf12 (by decide) rfl w1317 rfl rfl k_k65 o_k65 l_k65  (fun _ => rfl) (sd_lets (fun s66 e_s66 => ?_))
  refine sv_aload_n (pc := 120) 0 (sv_d k_Mo_init 61 rfl) rfl rfl ?_
  refine sv_bipush (pc := 121) (v := (20 : Int32)) (sv_d k_Mo_init 62 rfl) (by decide) ?_
  refine ss_grd (fun hnb => ?_)
  refine ss_letr (fun w69 e_w69 => ?_)
  refine sv_newa (pc := 123) (kk := 20) (sv_d k_Mo_init 63 rfl) rfl wa20 hnb (sd_lets (fun s68 e_s68 => ?_))
  rw [← e_w69]
  refine sd_gd (fun k_k70 o_k70 l_k70 => ?_)
  refine sd_putRF (pc := 125) 16 (sv_d k_Mo_init 64 rfl) cf12 (by decide) rfl w1318 rfl rfl k_k70 o_k70 l_k70  (fun _ => rfl) (sd_lets (fun s71 e_s71 => ?_))
  refine sv_aload_n (pc := 128) 0 (sv_d k_Mo_init 65 rfl) rfl rfl ?_
  refine sv_bipush (pc := 129) (v := (10 : Int32)) (sv_d k_Mo_init 66 rfl) (by decide) ?_
  refine ss_grd (fun hnb => ?_)
  refine ss_letr (fun w74 e_w74 => ?_)
  refine sv_newa (pc := 131) (kk := 20) (sv_d k_Mo_init 67 rfl) rfl wa20 hnb (sd_lets (fun s73 e_s73 => ?_))
  rw [← e_w74]
  refine sd_gd (fun k_k75 o_k75 l_k75 => ?_)
  refine sd_putRF (pc := 133) 17 (sv_d k_Mo_init 68 rfl) cf12 (by decide) rfl w1319 rfl rfl k_k75 o_k75 l_k75  (fun _ => rfl) (sd_lets (fun s76 e_s76 => ?_))
  refine sv_aload_n (pc := 136) 0 (sv_d k_Mo_init 69 rfl) rfl rfl ?_
  refine sv_iconst (pc := 137) (v := (5 : Int32)) (sv_d k_Mo_init 70 rfl) (by decide) ?_
  refine ss_grd (fun hnb => ?_)
  refine ss_letr (fun w79 e_w79 => ?_)
  refine sv_newa (pc := 138) (kk := 20) (sv_d k_Mo_init 71 rfl) rfl wa20 hnb (sd_lets (fun s78 e_s78 => ?_))
  rw [← e_w79]
  refine sd_gd (fun k_k80 o_k80 l_k80 => ?_)
  refine sd_putRF (pc := 140) 18 (sv_d k_Mo_init 72 rfl) cf12 (by decide) rfl w1320 rfl rfl k_k80 o_k80 l_k80  (fun _ => rfl) (sd_lets (fun s81 e_s81 => ?_))
  refine sv_aload_n (pc := 143) 0 (sv_d k_Mo_init 73 rfl) rfl rfl ?_
  refine sv_iconst (pc := 144) (v := (0 : Int32)) (sv_d k_Mo_init 74 rfl) (by decide) ?_
  refine sd_gd (fun k_k82 o_k82 l_k82 => ?_)
  refine sd_putI (pc := 145) 19 (sv_d k_Mo_init 75 rfl) cf12 (by decide) rfl w1321 k_k82 o_k82 l_k82 rfl rfl (fun _ => rfl) (sd_lets (fun s83 e_s83 => ?_))
  refine sv_aload_n (pc := 148) 0 (sv_d k_Mo_init 76 rfl) rfl rfl ?_
  refine sv_iconst (pc := 149) (v := (1 : Int32)) (sv_d k_Mo_init 77 rfl) (by decide) ?_
  refine sd_gd (fun k_k84 o_k84 l_k84 => ?_)
  refine sd_putI (pc := 150) 20 (sv_d k_Mo_init 78 rfl) cf12 (by decide) rfl w1322 k_k84 o_k84 l_k84 rfl rfl (fun _ => rfl) (sd_lets (fun s85 e_s85 => ?_))
  refine sv_aload_n (pc := 153) 0 (sv_d k_Mo_init 79 rfl) rfl rfl ?_
  refine sv_iconst (pc := 154) (v := (0 : Int32)) (sv_d k_Mo_init 80 rfl) (by decide) ?_
  refine sd_gd (fun k_k86 o_k86 l_k86 => ?_)
  refine sd_putI (pc := 155) 21 (sv_d k_Mo_init 81 rfl) cf12 (by decide) rfl w1323 k_k86 o_k86 l_k86 rfl rfl (fun _ => rfl) (sd_lets (fun s87 e_s87 => ?_))
  refine sv_aload_n (pc := 158) 0 (sv_d k_Mo_init 82 rfl) rfl rfl ?_
  refine sv_bipush (pc := 159) (v := (7 : Int32)) (sv_d k_Mo_init 83 rfl) (by decide) ?_
  refine ss_grd (fun hnb => ?_)
  refine ss_letr (fun w90 e_w90 => ?_)
  refine sv_newa (pc := 161) (kk := 20) (sv_d k_Mo_init 84 rfl) rfl wa20 hnb (sd_lets (fun s89 e_s89 => ?_))
  rw [← e_w90]
  refine sd_gd (fun k_k91 o_k91 l_k91 => ?_)
  refine sd_putRF (pc := 163) 22 (sv_d k_Mo_init 85 rfl) cf12 (by decide) rfl w1324 rfl rfl k_k91 o_k91 l_k91  (fun _ => rfl) (sd_lets (fun s92 e_s92 => ?_))
  refine sv_aload_n (pc := 166) 0 (sv_d k_Mo_init 86 rfl) rfl rfl ?_
  refine sv_iconst (pc := 167) (v := (0 : Int32)) (sv_d k_Mo_init 87 rfl) (by decide) ?_
  refine sd_gd (fun k_k93 o_k93 l_k93 => ?_)
  refine sd_putI (pc := 168) 23 (sv_d k_Mo_init 88 rfl) cf12 (by decide) rfl w1325 k_k93 o_k93 l_k93 rfl rfl (fun _ => rfl) (sd_lets (fun s94 e_s94 => ?_))
  refine sv_aload_n (pc := 171) 0 (sv_d k_Mo_init 89 rfl) rfl rfl ?_
  refine sv_iconst (pc := 172) (v := (0 : Int32)) (sv_d k_Mo_init 90 rfl) (by decide) ?_
  refine sd_gd (fun k_k95 o_k95 l_k95 => ?_)
  refine sd_putI (pc := 173) 24 (sv_d k_Mo_init 91 rfl) cf12 (by decide) rfl w1326 k_k95 o_k95 l_k95 rfl rfl (fun _ => rfl) (sd_lets (fun s96 e_s96 => ?_))
  refine sv_aload_n (pc := 176) 0 (sv_d k_Mo_init 92 rfl) rfl rfl ?_
  refine sv_iconst (pc := 177) (v := (0 : Int32)) (sv_d k_Mo_init 93 rfl) (by decide) ?_
  refine sd_gd (fun k_k97 o_k97 l_k97 => ?_)
  refine sd_putI (pc := 178) 25 (sv_d k_Mo_init 94 rfl) cf12 (by decide) rfl w1327 k_k97 o_k97 l_k97 rfl rfl (fun _ => rfl) (sd_lets (fun s98 e_s98 => ?_))
  refine sv_aload_n (pc := 181) 0 (sv_d k_Mo_init 95 rfl) rfl rfl ?_
  refine sv_iconst (pc := 182) (v := (0 : Int32)) (sv_d k_Mo_init 96 rfl) (by decide) ?_
  refine sd_gd (fun k_k99 o_k99 l_k99 => ?_)
  refine sd_putI (pc := 183) 26 (sv_d k_Mo_init 97 rfl) cf12 (by decide) rfl w1328 k_k99 o_k99 l_k99 rfl rfl (fun _ => rfl) (sd_lets (fun s100 e_s100 => ?_))
  refine sv_aload_n (pc := 186) 0 (sv_d k_Mo_init 98 rfl) rfl rfl ?_
  refine sv_sipush (pc := 187) (v := (141 : Int32)) (sv_d k_Mo_init 99 rfl) (by decide) ?_
  refine ss_grd (fun hnb => ?_)
  refine ss_letr (fun w103 e_w103 => ?_)
  refine sv_newa (pc := 190) (kk := 20) (sv_d k_Mo_init 100 rfl) rfl wa20 hnb (sd_lets (fun s102 e_s102 => ?_))
  rw [← e_w103]
  refine sd_gd (fun k_k104 o_k104 l_k104 => ?_)
  refine sd_putRF (pc := 192) 27 (sv_d k_Mo_init 101 rfl) cf12 (by decide) rfl w1329 rfl rfl k_k104 o_k104 l_k104  (fun _ => rfl) (sd_lets (fun s105 e_s105 => ?_))
  refine sv_aload_n (pc := 195) 0 (sv_d k_Mo_init 102 rfl) rfl rfl ?_
  refine sv_sipush (pc := 196) (v := (141 : Int32)) (sv_d k_Mo_init 103 rfl) (by decide) ?_
  refine ss_grd (fun hnb => ?_)
  refine ss_letr (fun w108 e_w108 => ?_)
  refine sv_newa (pc := 199) (kk := 23) (sv_d k_Mo_init 104 rfl) rfl wa23 hnb (sd_lets (fun s107 e_s107 => ?_))
  rw [← e_w108]
  refine sd_gd (fun k_k109 o_k109 l_k109 => ?_)
  refine sd_putRF (pc := 201) 28 (sv_d k_Mo_init 105 rfl) cf12 (by decide) rfl w1330 rfl rfl k_k109 o_k109 l_k109  (fun _ => rfl) (sd_lets (fun s110 e_s110 => ?_))
  refine sv_aload_n (pc := 204) 0 (sv_d k_Mo_init 106 rfl) rfl rfl ?_
  refine sv_iconst (pc := 205) (v := (0 : Int32)) (sv_d k_Mo_init 107 rfl) (by decide) ?_
  refine sd_gd (fun k_k111 o_k111 l_k111 => ?_)
  refine sd_putI (pc := 206) 29 (sv_d k_Mo_init 108 rfl) cf12 (by decide) rfl w1331 k_k111 o_k111 l_k111 rfl rfl (fun _ => rfl) (sd_lets (fun s112 e_s112 => ?_))
  refine sv_aload_n (pc := 209) 0 (sv_d k_Mo_init 109 rfl) rfl rfl ?_
  refine sv_iconst (pc := 210) (v := (0 : Int32)) (sv_d k_Mo_init 110 rfl) (by decide) ?_
  refine sd_gd (fun k_k113 o_k113 l_k113 => ?_)
  refine sd_putI (pc := 211) 30 (sv_d k_Mo_init 111 rfl) cf12 (by decide) rfl w1332 k_k113 o_k113 l_k113 rfl rfl (fun _ => rfl) (sd_lets (fun s114 e_s114 => ?_))
  refine sv_aload_n (pc := 214) 0 (sv_d k_Mo_init 112 rfl) rfl rfl ?_
  refine sv_iconst (pc := 215) (v := (0 : Int32)) (sv_d k_Mo_init 113 rfl) (by decide) ?_
  refine sd_gd (fun k_k115 o_k115 l_k115 => ?_)
  refine sd_putI (pc := 216) 31 (sv_d k_Mo_init 114 rfl) cf12 (by decide) rfl w1333 k_k115 o_k115 l_k115 rfl rfl (fun _ => rfl) (sd_lets (fun s116 e_s116 => ?_))
  refine sv_aload_n (pc := 219) 0 (sv_d k_Mo_init 115 rfl) rfl rfl ?_
  refine sv_iconst (pc := 220) (v := (0 : Int32)) (sv_d k_Mo_init 116 rfl) (by decide) ?_
  refine sd_gd (fun k_k117 o_k117 l_k117 => ?_)
  refine sd_putI (pc := 221) 32 (sv_d k_Mo_init 117 rfl) cf12 (by decide) rfl w1334 k_k117 o_k117 l_k117 rfl rfl (fun _ => rfl) (sd_lets (fun s118 e_s118 => ?_))
  refine sv_aload_n (pc := 224) 0 (sv_d k_Mo_init 118 rfl) rfl rfl ?_
  refine sv_bipush (pc := 225) (v := (60 : Int32)) (sv_d k_Mo_init 119 rfl) (by decide) ?_
  refine ss_grd (fun hnb => ?_)
  refine ss_letr (fun w121 e_w121 => ?_)
  refine sv_newa (pc := 227) (kk := 20) (sv_d k_Mo_init 120 rfl) rfl wa20 hnb (sd_lets (fun s120 e_s120 => ?_))
  rw [← e_w121]
  refine sd_gd (fun k_k122 o_k122 l_k122 => ?_)
  refine sd_putRF (pc := 229) 33 (sv_d k_Mo_init 121 rfl) cf12 (by decide) rfl w1335 rfl rfl k_k122 o_k122 l_k122  (fun _ => rfl) (sd_lets (fun s123 e_s123 => ?_))
  refine sv_aload_n (pc := 232) 0 (sv_d k_Mo_init 122 rfl) rfl rfl ?_
  refine sv_bipush (pc := 233) (v := (60 : Int32)) (sv_d k_Mo_init 123 rfl) (by decide) ?_
  refine ss_grd (fun hnb => ?_)
  refine ss_letr (fun w126 e_w126 => ?_)
  refine sv_newa (pc := 235) (kk := 20) (sv_d k_Mo_init 124 rfl) rfl wa20 hnb (sd_lets (fun s125 e_s125 => ?_))
  rw [← e_w126]
  refine sd_gd (fun k_k127 o_k127 l_k127 => ?_)
  refine sd_putRF (pc := 237) 34 (sv_d k_Mo_init 125 rfl) cf12 (by decide) rfl w1336 rfl rfl k_k127 o_k127 l_k127  (fun _ => rfl) (sd_lets (fun s128 e_s128 => ?_))
  refine sv_aload_n (pc := 240) 0 (sv_d k_Mo_init 126 rfl) rfl rfl ?_
  refine sv_bipush (pc := 241) (v := (60 : Int32)) (sv_d k_Mo_init 127 rfl) (by decide) ?_
  refine ss_grd (fun hnb => ?_)
  refine ss_letr (fun w131 e_w131 => ?_)
  refine sv_newa (pc := 243) (kk := 20) (sv_d k_Mo_init 128 rfl) rfl wa20 hnb (sd_lets (fun s130 e_s130 => ?_))
  rw [← e_w131]
  refine sd_gd (fun k_k132 o_k132 l_k132 => ?_)
  refine sd_putRF (pc := 245) 35 (sv_d k_Mo_init 129 rfl) cf12 (by decide) rfl w1337 rfl rfl k_k132 o_k132 l_k132  (fun _ => rfl) (sd_lets (fun s133 e_s133 => ?_))
  refine sv_aload_n (pc := 248) 0 (sv_d k_Mo_init 130 rfl) rfl rfl ?_
  refine sv_bipush (pc := 249) (v := (60 : Int32)) (sv_d k_Mo_init 131 rfl) (by decide) ?_
  refine ss_grd (fun hnb => ?_)
  refine ss_letr (fun w136 e_w136 => ?_)
  refine sv_newa (pc := 251) (kk := 20) (sv_d k_Mo_init 132 rfl) rfl wa20 hnb (sd_lets (fun s135 e_s135 => ?_))
  rw [← e_w136]
  refine sd_gd (fun k_k137 o_k137 l_k137 => ?_)
  refine sd_putRF (pc := 253) 36 (sv_d k_Mo_init 133 rfl) cf12 (by decide) rfl w1338 rfl rfl k_k137 o_k137 l_k137  (fun _ => rfl) (sd_lets (fun s138 e_s138 => ?_))
  refine sv_aload_n (pc := 256) 0 (sv_d k_Mo_init 134 rfl) rfl rfl ?_
  refine sv_bipush (pc := 257) (v := (60 : Int32)) (sv_d k_Mo_init 135 rfl) (by decide) ?_
  refine ss_grd (fun hnb => ?_)
  refine ss_letr (fun w141 e_w141 => ?_)
  refine sv_newa (pc := 259) (kk := 20) (sv_d k_Mo_init 136 rfl) rfl wa20 hnb (sd_lets (fun s140 e_s140 => ?_))
  rw [← e_w141]
  refine sd_gd (fun k_k142 o_k142 l_k142 => ?_)
  refine sd_putRF (pc := 261) 37 (sv_d k_Mo_init 137 rfl) cf12 (by decide) rfl w1339 rfl rfl k_k142 o_k142 l_k142  (fun _ => rfl) (sd_lets (fun s143 e_s143 => ?_))
  refine sv_aload_n (pc := 264) 0 (sv_d k_Mo_init 138 rfl) rfl rfl ?_
  refine sv_bipush (pc := 265) (v := (60 : Int32)) (sv_d k_Mo_init 139 rfl) (by decide) ?_
  refine ss_grd (fun hnb => ?_)
  refine ss_letr (fun w146 e_w146 => ?_)
  refine sv_newa (pc := 267) (kk := 20) (sv_d k_Mo_init 140 rfl) rfl wa20 hnb (sd_lets (fun s145 e_s145 => ?_))
  rw [← e_w146]
  refine sd_gd (fun k_k147 o_k147 l_k147 => ?_)
  refine sd_putRF (pc := 269) 38 (sv_d k_Mo_init 141 rfl) cf12 (by decide) rfl w1340 rfl rfl k_k147 o_k147 l_k147  (fun _ => rfl) (sd_lets (fun s148 e_s148 => ?_))
  refine sv_aload_n (pc := 272) 0 (sv_d k_Mo_init 142 rfl) rfl rfl ?_
  refine sv_bipush (pc := 273) (v := (60 : Int32)) (sv_d k_Mo_init 143 rfl) (by decide) ?_
  refine ss_grd (fun hnb => ?_)
  refine ss_letr (fun w151 e_w151 => ?_)
  refine sv_newa (pc := 275) (kk := 20) (sv_d k_Mo_init 144 rfl) rfl wa20 hnb (sd_lets (fun s150 e_s150 => ?_))
  rw [← e_w151]
  refine sd_gd (fun k_k152 o_k152 l_k152 => ?_)
  refine sd_putRF (pc := 277) 39 (sv_d k_Mo_init 145 rfl) cf12 (by decide) rfl w1341 rfl rfl k_k152 o_k152 l_k152  (fun _ => rfl) (sd_lets (fun s153 e_s153 => ?_))
  refine sv_aload_n (pc := 280) 0 (sv_d k_Mo_init 146 rfl) rfl rfl ?_
  refine sv_bipush (pc := 281) (v := (60 : Int32)) (sv_d k_Mo_init 147 rfl) (by decide) ?_
  refine ss_grd (fun hnb => ?_)
  refine ss_letr (fun w156 e_w156 => ?_)
  refine sv_newa (pc := 283) (kk := 20) (sv_d k_Mo_init 148 rfl) rfl wa20 hnb (sd_lets (fun s155 e_s155 => ?_))
  rw [← e_w156]
  refine sd_gd (fun k_k157 o_k157 l_k157 => ?_)
  refine sd_putRF (pc := 285) 40 (sv_d k_Mo_init 149 rfl) cf12 (by decide) rfl w1342 rfl rfl k_k157 o_k157 l_k157  (fun _ => rfl) (sd_lets (fun s158 e_s158 => ?_))
  refine sv_aload_n (pc := 288) 0 (sv_d k_Mo_init 150 rfl) rfl rfl ?_
  refine sv_bipush (pc := 289) (v := (60 : Int32)) (sv_d k_Mo_init 151 rfl) (by decide) ?_
  refine ss_grd (fun hnb => ?_)
  refine ss_letr (fun w161 e_w161 => ?_)
  refine sv_newa (pc := 291) (kk := 20) (sv_d k_Mo_init 152 rfl) rfl wa20 hnb (sd_lets (fun s160 e_s160 => ?_))
  rw [← e_w161]
  refine sd_gd (fun k_k162 o_k162 l_k162 => ?_)
  refine sd_putRF (pc := 293) 41 (sv_d k_Mo_init 153 rfl) cf12 (by decide) rfl w1343 rfl rfl k_k162 o_k162 l_k162  (fun _ => rfl) (sd_lets (fun s163 e_s163 => ?_))
  refine sv_aload_n (pc := 296) 0 (sv_d k_Mo_init 154 rfl) rfl rfl ?_
  refine sv_bipush (pc := 297) (v := (60 : Int32)) (sv_d k_Mo_init 155 rfl) (by decide) ?_
  refine ss_grd (fun hnb => ?_)
  refine ss_letr (fun w166 e_w166 => ?_)
  refine sv_newa (pc := 299) (kk := 20) (sv_d k_Mo_init 156 rfl) rfl wa20 hnb (sd_lets (fun s165 e_s165 => ?_))
  rw [← e_w166]
  refine sd_gd (fun k_k167 o_k167 l_k167 => ?_)
  refine sd_putRF (pc := 301) 42 (sv_d k_Mo_init 157 rfl) cf12 (by decide) rfl w1344 rfl rfl k_k167 o_k167 l_k167  (fun _ => rfl) (sd_lets (fun s168 e_s168 => ?_))
  refine sv_aload_n (pc := 304) 0 (sv_d k_Mo_init 158 rfl) rfl rfl ?_
  refine sv_bipush (pc := 305) (v := (6 : Int32)) (sv_d k_Mo_init 159 rfl) (by decide) ?_
  refine ss_grd (fun hnb => ?_)
  refine ss_letr (fun w171 e_w171 => ?_)
  refine sv_newa (pc := 307) (kk := 20) (sv_d k_Mo_init 160 rfl) rfl wa20 hnb (sd_lets (fun s170 e_s170 => ?_))
  rw [← e_w171]
  refine sd_gd (fun k_k172 o_k172 l_k172 => ?_)
  refine sd_putRF (pc := 309) 43 (sv_d k_Mo_init 161 rfl) cf12 (by decide) rfl w1345 rfl rfl k_k172 o_k172 l_k172  (fun _ => rfl) (sd_lets (fun s173 e_s173 => ?_))
  refine sv_aload_n (pc := 312) 0 (sv_d k_Mo_init 162 rfl) rfl rfl ?_
  refine sv_bipush (pc := 313) (v := (6 : Int32)) (sv_d k_Mo_init 163 rfl) (by decide) ?_
  refine ss_grd (fun hnb => ?_)
  refine ss_letr (fun w176 e_w176 => ?_)
  refine sv_newa (pc := 315) (kk := 20) (sv_d k_Mo_init 164 rfl) rfl wa20 hnb (sd_lets (fun s175 e_s175 => ?_))
  rw [← e_w176]
  refine sd_gd (fun k_k177 o_k177 l_k177 => ?_)
  refine sd_putRF (pc := 317) 44 (sv_d k_Mo_init 165 rfl) cf12 (by decide) rfl w1346 rfl rfl k_k177 o_k177 l_k177  (fun _ => rfl) (sd_lets (fun s178 e_s178 => ?_))
  refine sv_aload_n (pc := 320) 0 (sv_d k_Mo_init 166 rfl) rfl rfl ?_
  refine sv_bipush (pc := 321) (v := (120 : Int32)) (sv_d k_Mo_init 167 rfl) (by decide) ?_
  refine ss_grd (fun hnb => ?_)
  refine ss_letr (fun w181 e_w181 => ?_)
  refine sv_newa (pc := 323) (kk := 20) (sv_d k_Mo_init 168 rfl) rfl wa20 hnb (sd_lets (fun s180 e_s180 => ?_))
  rw [← e_w181]
  refine sd_gd (fun k_k182 o_k182 l_k182 => ?_)
  refine sd_putRF (pc := 325) 45 (sv_d k_Mo_init 169 rfl) cf12 (by decide) rfl w1347 rfl rfl k_k182 o_k182 l_k182  (fun _ => rfl) (sd_lets (fun s183 e_s183 => ?_))
  refine sv_aload_n (pc := 328) 0 (sv_d k_Mo_init 170 rfl) rfl rfl ?_
  refine sv_bipush (pc := 329) (v := (60 : Int32)) (sv_d k_Mo_init 171 rfl) (by decide) ?_
  refine ss_grd (fun hnb => ?_)
  refine ss_letr (fun w186 e_w186 => ?_)
  refine sv_newa (pc := 331) (kk := 20) (sv_d k_Mo_init 172 rfl) rfl wa20 hnb (sd_lets (fun s185 e_s185 => ?_))
  rw [← e_w186]
  refine sd_gd (fun k_k187 o_k187 l_k187 => ?_)
  refine sd_putRF (pc := 333) 46 (sv_d k_Mo_init 173 rfl) cf12 (by decide) rfl w1348 rfl rfl k_k187 o_k187 l_k187  (fun _ => rfl) (sd_lets (fun s188 e_s188 => ?_))
  refine sv_aload_n (pc := 336) 0 (sv_d k_Mo_init 174 rfl) rfl rfl ?_
  refine sv_bipush (pc := 337) (v := (6 : Int32)) (sv_d k_Mo_init 175 rfl) (by decide) ?_
  refine ss_grd (fun hnb => ?_)
  refine ss_letr (fun w191 e_w191 => ?_)
  refine sv_newa (pc := 339) (kk := 20) (sv_d k_Mo_init 176 rfl) rfl wa20 hnb (sd_lets (fun s190 e_s190 => ?_))
  rw [← e_w191]
  refine sd_gd (fun k_k192 o_k192 l_k192 => ?_)
  refine sd_putRF (pc := 341) 47 (sv_d k_Mo_init 177 rfl) cf12 (by decide) rfl w1349 rfl rfl k_k192 o_k192 l_k192  (fun _ => rfl) (sd_lets (fun s193 e_s193 => ?_))
  refine sv_aload_n (pc := 344) 0 (sv_d k_Mo_init 178 rfl) rfl rfl ?_
  refine sv_bipush (pc := 345) (v := (6 : Int32)) (sv_d k_Mo_init 179 rfl) (by decide) ?_
  refine ss_grd (fun hnb => ?_)
  refine ss_letr (fun w196 e_w196 => ?_)
  refine sv_newa (pc := 347) (kk := 20) (sv_d k_Mo_init 180 rfl) rfl wa20 hnb (sd_lets (fun s195 e_s195 => ?_))
  rw [← e_w196]
  refine sd_gd (fun k_k197 o_k197 l_k197 => ?_)
  refine sd_putRF (pc := 349) 48 (sv_d k_Mo_init 181 rfl) cf12 (by decide) rfl w1350 rfl rfl k_k197 o_k197 l_k197  (fun _ => rfl) (sd_lets (fun s198 e_s198 => ?_))
  refine sv_aload_n (pc := 352) 0 (sv_d k_Mo_init 182 rfl) rfl rfl ?_
  refine sv_bipush (pc := 353) (v := (6 : Int32)) (sv_d k_Mo_init 183 rfl) (by decide) ?_
  refine ss_grd (fun hnb => ?_)
  refine ss_letr (fun w201 e_w201 => ?_)
  refine sv_newa (pc := 355) (kk := 20) (sv_d k_Mo_init 184 rfl) rfl wa20 hnb (sd_lets (fun s200 e_s200 => ?_))
  rw [← e_w201]
  refine sd_gd (fun k_k202 o_k202 l_k202 => ?_)
  refine sd_putRF (pc := 357) 49 (sv_d k_Mo_init 185 rfl) cf12 (by decide) rfl w1351 rfl rfl k_k202 o_k202 l_k202  (fun _ => rfl) (sd_lets (fun s203 e_s203 => ?_))
  refine sv_aload_n (pc := 360) 0 (sv_d k_Mo_init 186 rfl) rfl rfl ?_
  refine sv_iconst (pc := 361) (v := (0 : Int32)) (sv_d k_Mo_init 187 rfl) (by decide) ?_
  refine sd_gd (fun k_k204 o_k204 l_k204 => ?_)
  refine sd_putI (pc := 362) 50 (sv_d k_Mo_init 188 rfl) cf12 (by decide) rfl w1352 k_k204 o_k204 l_k204 rfl rfl (fun _ => rfl) (sd_lets (fun s205 e_s205 => ?_))
  refine sv_aload_n (pc := 365) 0 (sv_d k_Mo_init 189 rfl) rfl rfl ?_
  refine sv_iconst (pc := 366) (v := (-1 : Int32)) (sv_d k_Mo_init 190 rfl) (by decide) ?_
  refine sd_gd (fun k_k206 o_k206 l_k206 => ?_)
  refine sd_putI (pc := 367) 51 (sv_d k_Mo_init 191 rfl) cf12 (by decide) rfl w1353 k_k206 o_k206 l_k206 rfl rfl (fun _ => rfl) (sd_lets (fun s207 e_s207 => ?_))
  refine sv_aload_n (pc := 370) 0 (sv_d k_Mo_init 192 rfl) rfl rfl ?_
  refine sv_bipush (pc := 371) (v := (80 : Int32)) (sv_d k_Mo_init 193 rfl) (by decide) ?_
  refine ss_grd (fun hnb => ?_)
  refine ss_letr (fun w210 e_w210 => ?_)
  refine sv_newa (pc := 373) (kk := 20) (sv_d k_Mo_init 194 rfl) rfl wa20 hnb (sd_lets (fun s209 e_s209 => ?_))
  rw [← e_w210]
  refine sd_gd (fun k_k211 o_k211 l_k211 => ?_)
  refine sd_putRF (pc := 375) 52 (sv_d k_Mo_init 195 rfl) cf12 (by decide) rfl w1354 rfl rfl k_k211 o_k211 l_k211  (fun _ => rfl) (sd_lets (fun s212 e_s212 => ?_))
  refine sv_aload_n (pc := 378) 0 (sv_d k_Mo_init 196 rfl) rfl rfl ?_
  refine sv_bipush (pc := 379) (v := (80 : Int32)) (sv_d k_Mo_init 197 rfl) (by decide) ?_
  refine ss_grd (fun hnb => ?_)
  refine ss_letr (fun w215 e_w215 => ?_)
  refine sv_newa (pc := 381) (kk := 20) (sv_d k_Mo_init 198 rfl) rfl wa20 hnb (sd_lets (fun s214 e_s214 => ?_))
  rw [← e_w215]
  refine sd_gd (fun k_k216 o_k216 l_k216 => ?_)
  refine sd_putRF (pc := 383) 53 (sv_d k_Mo_init 199 rfl) cf12 (by decide) rfl w1355 rfl rfl k_k216 o_k216 l_k216  (fun _ => rfl) (sd_lets (fun s217 e_s217 => ?_))
  refine sv_aload_n (pc := 386) 0 (sv_d k_Mo_init 200 rfl) rfl rfl ?_
  refine sv_bipush (pc := 387) (v := (80 : Int32)) (sv_d k_Mo_init 201 rfl) (by decide) ?_
  refine ss_grd (fun hnb => ?_)
  refine ss_letr (fun w220 e_w220 => ?_)
  refine sv_newa (pc := 389) (kk := 20) (sv_d k_Mo_init 202 rfl) rfl wa20 hnb (sd_lets (fun s219 e_s219 => ?_))
  rw [← e_w220]
  refine sd_gd (fun k_k221 o_k221 l_k221 => ?_)
  refine sd_putRF (pc := 391) 54 (sv_d k_Mo_init 203 rfl) cf12 (by decide) rfl w1356 rfl rfl k_k221 o_k221 l_k221  (fun _ => rfl) (sd_lets (fun s222 e_s222 => ?_))
  refine sv_aload_n (pc := 394) 0 (sv_d k_Mo_init 204 rfl) rfl rfl ?_
  refine sv_bipush (pc := 395) (v := (80 : Int32)) (sv_d k_Mo_init 205 rfl) (by decide) ?_
  refine ss_grd (fun hnb => ?_)
  refine ss_letr (fun w225 e_w225 => ?_)
  refine sv_newa (pc := 397) (kk := 20) (sv_d k_Mo_init 206 rfl) rfl wa20 hnb (sd_lets (fun s224 e_s224 => ?_))
  rw [← e_w225]
  refine sd_gd (fun k_k226 o_k226 l_k226 => ?_)
  refine sd_putRF (pc := 399) 55 (sv_d k_Mo_init 207 rfl) cf12 (by decide) rfl w1357 rfl rfl k_k226 o_k226 l_k226  (fun _ => rfl) (sd_lets (fun s227 e_s227 => ?_))
  refine sv_aload_n (pc := 402) 0 (sv_d k_Mo_init 208 rfl) rfl rfl ?_
  refine sv_bipush (pc := 403) (v := (80 : Int32)) (sv_d k_Mo_init 209 rfl) (by decide) ?_
  refine ss_grd (fun hnb => ?_)
  refine ss_letr (fun w230 e_w230 => ?_)
  refine sv_newa (pc := 405) (kk := 20) (sv_d k_Mo_init 210 rfl) rfl wa20 hnb (sd_lets (fun s229 e_s229 => ?_))
  rw [← e_w230]
  refine sd_gd (fun k_k231 o_k231 l_k231 => ?_)
  refine sd_putRF (pc := 407) 56 (sv_d k_Mo_init 211 rfl) cf12 (by decide) rfl w1358 rfl rfl k_k231 o_k231 l_k231  (fun _ => rfl) (sd_lets (fun s232 e_s232 => ?_))
  refine sv_aload_n (pc := 410) 0 (sv_d k_Mo_init 212 rfl) rfl rfl ?_
  refine sv_bipush (pc := 411) (v := (60 : Int32)) (sv_d k_Mo_init 213 rfl) (by decide) ?_
  refine ss_grd (fun hnb => ?_)
  refine ss_letr (fun w235 e_w235 => ?_)
  refine sv_newa (pc := 413) (kk := 20) (sv_d k_Mo_init 214 rfl) rfl wa20 hnb (sd_lets (fun s234 e_s234 => ?_))
  rw [← e_w235]
  refine sd_gd (fun k_k236 o_k236 l_k236 => ?_)
  refine sd_putRF (pc := 415) 57 (sv_d k_Mo_init 215 rfl) cf12 (by decide) rfl w1359 rfl rfl k_k236 o_k236 l_k236  (fun _ => rfl) (sd_lets (fun s237 e_s237 => ?_))
  refine sv_aload_n (pc := 418) 0 (sv_d k_Mo_init 216 rfl) rfl rfl ?_
  refine sv_sipush (pc := 419) (v := (144 : Int32)) (sv_d k_Mo_init 217 rfl) (by decide) ?_
  refine ss_grd (fun hnb => ?_)
  refine ss_letr (fun w240 e_w240 => ?_)
  refine sv_newa (pc := 422) (kk := 20) (sv_d k_Mo_init 218 rfl) rfl wa20 hnb (sd_lets (fun s239 e_s239 => ?_))
  rw [← e_w240]
  refine sd_gd (fun k_k241 o_k241 l_k241 => ?_)
  refine sd_putRF (pc := 424) 58 (sv_d k_Mo_init 219 rfl) cf12 (by decide) rfl w1360 rfl rfl k_k241 o_k241 l_k241  (fun _ => rfl) (sd_lets (fun s242 e_s242 => ?_))
  refine sv_aload_n (pc := 427) 0 (sv_d k_Mo_init 220 rfl) rfl rfl ?_
  refine sv_iconst (pc := 428) (v := (0 : Int32)) (sv_d k_Mo_init 221 rfl) (by decide) ?_
  refine sd_gd (fun k_k243 o_k243 l_k243 => ?_)
  refine sd_putI (pc := 429) 59 (sv_d k_Mo_init 222 rfl) cf12 (by decide) rfl w1361 k_k243 o_k243 l_k243 rfl rfl (fun _ => rfl) (sd_lets (fun s244 e_s244 => ?_))
  refine sv_aload_n (pc := 432) 0 (sv_d k_Mo_init 223 rfl) rfl rfl ?_
  refine sv_iconst (pc := 433) (v := (0 : Int32)) (sv_d k_Mo_init 224 rfl) (by decide) ?_
  refine sd_gd (fun k_k245 o_k245 l_k245 => ?_)
  refine sd_putI (pc := 434) 60 (sv_d k_Mo_init 225 rfl) cf12 (by decide) rfl w1362 k_k245 o_k245 l_k245 rfl rfl (fun _ => rfl) (sd_lets (fun s246 e_s246 => ?_))
  refine sv_aload_n (pc := 437) 0 (sv_d k_Mo_init 226 rfl) rfl rfl ?_
  refine sv_iconst (pc := 438) (v := (0 : Int32)) (sv_d k_Mo_init 227 rfl) (by decide) ?_
  refine sd_gd (fun k_k247 o_k247 l_k247 => ?_)
  refine sd_putI (pc := 439) 61 (sv_d k_Mo_init 228 rfl) cf12 (by decide) rfl w1363 k_k247 o_k247 l_k247 rfl rfl (fun _ => rfl) (sd_lets (fun s248 e_s248 => ?_))
  refine sv_aload_n (pc := 442) 0 (sv_d k_Mo_init 229 rfl) rfl rfl ?_
  refine sv_bipush (pc := 443) (v := (8 : Int32)) (sv_d k_Mo_init 230 rfl) (by decide) ?_
  refine ss_grd (fun hnb => ?_)
  refine ss_letr (fun w251 e_w251 => ?_)
  refine sv_newa (pc := 445) (kk := 20) (sv_d k_Mo_init 231 rfl) rfl wa20 hnb (sd_lets (fun s250 e_s250 => ?_))
  rw [← e_w251]
  refine sd_gd (fun k_k252 o_k252 l_k252 => ?_)
  refine sd_putRF (pc := 447) 62 (sv_d k_Mo_init 232 rfl) cf12 (by decide) rfl w1364 rfl rfl k_k252 o_k252 l_k252  (fun _ => rfl) (sd_lets (fun s253 e_s253 => ?_))
  refine sv_aload_n (pc := 450) 0 (sv_d k_Mo_init 233 rfl) rfl rfl ?_
  refine sv_iconst (pc := 451) (v := (0 : Int32)) (sv_d k_Mo_init 234 rfl) (by decide) ?_
  refine sd_gd (fun k_k254 o_k254 l_k254 => ?_)
  refine sd_putI (pc := 452) 63 (sv_d k_Mo_init 235 rfl) cf12 (by decide) rfl w1365 k_k254 o_k254 l_k254 rfl rfl (fun _ => rfl) (sd_lets (fun s255 e_s255 => ?_))
  refine sv_aload_n (pc := 455) 0 (sv_d k_Mo_init 236 rfl) rfl rfl ?_
  refine sv_bipush (pc := 456) (v := (20 : Int32)) (sv_d k_Mo_init 237 rfl) (by decide) ?_
  refine ss_grd (fun hnb => ?_)
  refine ss_letr (fun w258 e_w258 => ?_)
  refine sv_newa (pc := 458) (kk := 20) (sv_d k_Mo_init 238 rfl) rfl wa20 hnb (sd_lets (fun s257 e_s257 => ?_))
  rw [← e_w258]
  refine sd_gd (fun k_k259 o_k259 l_k259 => ?_)
  refine sd_putRF (pc := 460) 64 (sv_d k_Mo_init 239 rfl) cf12 (by decide) rfl w1366 rfl rfl k_k259 o_k259 l_k259  (fun _ => rfl) (sd_lets (fun s260 e_s260 => ?_))
  refine sv_aload_n (pc := 463) 0 (sv_d k_Mo_init 240 rfl) rfl rfl ?_
  refine sv_bipush (pc := 464) (v := (20 : Int32)) (sv_d k_Mo_init 241 rfl) (by decide) ?_
  refine ss_grd (fun hnb => ?_)
  refine ss_letr (fun w263 e_w263 => ?_)
  refine sv_newa (pc := 466) (kk := 20) (sv_d k_Mo_init 242 rfl) rfl wa20 hnb (sd_lets (fun s262 e_s262 => ?_))
  rw [← e_w263]
  refine sd_gd (fun k_k264 o_k264 l_k264 => ?_)
  refine sd_putRF (pc := 468) 65 (sv_d k_Mo_init 243 rfl) cf12 (by decide) rfl w1367 rfl rfl k_k264 o_k264 l_k264  (fun _ => rfl) (sd_lets (fun s265 e_s265 => ?_))
  refine sv_aload_n (pc := 471) 0 (sv_d k_Mo_init 244 rfl) rfl rfl ?_
  refine sv_bipush (pc := 472) (v := (20 : Int32)) (sv_d k_Mo_init 245 rfl) (by decide) ?_
  refine ss_grd (fun hnb => ?_)
  refine ss_letr (fun w268 e_w268 => ?_)
  refine sv_newa (pc := 474) (kk := 20) (sv_d k_Mo_init 246 rfl) rfl wa20 hnb (sd_lets (fun s267 e_s267 => ?_))
  rw [← e_w268]
  refine sd_gd (fun k_k269 o_k269 l_k269 => ?_)
  refine sd_putRF (pc := 476) 66 (sv_d k_Mo_init 247 rfl) cf12 (by decide) rfl w1368 rfl rfl k_k269 o_k269 l_k269  (fun _ => rfl) (sd_lets (fun s270 e_s270 => ?_))
  refine sv_aload_n (pc := 479) 0 (sv_d k_Mo_init 248 rfl) rfl rfl ?_
  refine sv_bipush (pc := 480) (v := (20 : Int32)) (sv_d k_Mo_init 249 rfl) (by decide) ?_
  refine ss_grd (fun hnb => ?_)
  refine ss_letr (fun w273 e_w273 => ?_)
  refine sv_newa (pc := 482) (kk := 20) (sv_d k_Mo_init 250 rfl) rfl wa20 hnb (sd_lets (fun s272 e_s272 => ?_))
  rw [← e_w273]
  refine sd_gd (fun k_k274 o_k274 l_k274 => ?_)
  refine sd_putRF (pc := 484) 67 (sv_d k_Mo_init 251 rfl) cf12 (by decide) rfl w1369 rfl rfl k_k274 o_k274 l_k274  (fun _ => rfl) (sd_lets (fun s275 e_s275 => ?_))
  refine sv_aload_n (pc := 487) 0 (sv_d k_Mo_init 252 rfl) rfl rfl ?_
  refine sv_bipush (pc := 488) (v := (20 : Int32)) (sv_d k_Mo_init 253 rfl) (by decide) ?_
  refine ss_grd (fun hnb => ?_)
  refine ss_letr (fun w278 e_w278 => ?_)
  refine sv_newa (pc := 490) (kk := 20) (sv_d k_Mo_init 254 rfl) rfl wa20 hnb (sd_lets (fun s277 e_s277 => ?_))
  rw [← e_w278]
  refine sd_gd (fun k_k279 o_k279 l_k279 => ?_)
  refine sd_putRF (pc := 492) 68 (sv_d k_Mo_init 255 rfl) cf12 (by decide) rfl w1370 rfl rfl k_k279 o_k279 l_k279  (fun _ => rfl) (sd_lets (fun s280 e_s280 => ?_))
  refine sv_aload_n (pc := 495) 0 (sv_d k_Mo_init 256 rfl) rfl rfl ?_
  refine sv_iconst (pc := 496) (v := (0 : Int32)) (sv_d k_Mo_init 257 rfl) (by decide) ?_
  refine sd_gd (fun k_k281 o_k281 l_k281 => ?_)
  refine sd_putI (pc := 497) 69 (sv_d k_Mo_init 258 rfl) cf12 (by decide) rfl w1371 k_k281 o_k281 l_k281 rfl rfl (fun _ => rfl) (sd_lets (fun s282 e_s282 => ?_))
  refine sv_aload_n (pc := 500) 0 (sv_d k_Mo_init 259 rfl) rfl rfl ?_
  refine sv_bipush (pc := 501) (v := (10 : Int32)) (sv_d k_Mo_init 260 rfl) (by decide) ?_
  refine ss_grd (fun hnb => ?_)
  refine ss_letr (fun w285 e_w285 => ?_)
  refine sv_newa (pc := 503) (kk := 20) (sv_d k_Mo_init 261 rfl) rfl wa20 hnb (sd_lets (fun s284 e_s284 => ?_))
  rw [← e_w285]
  refine sd_gd (fun k_k286 o_k286 l_k286 => ?_)
  refine sd_putRF (pc := 505) 70 (sv_d k_Mo_init 262 rfl) cf12 (by decide) rfl w1372 rfl rfl k_k286 o_k286 l_k286  (fun _ => rfl) (sd_lets (fun s287 e_s287 => ?_))
  refine sv_aload_n (pc := 508) 0 (sv_d k_Mo_init 263 rfl) rfl rfl ?_
  refine sv_bipush (pc := 509) (v := (10 : Int32)) (sv_d k_Mo_init 264 rfl) (by decide) ?_
  refine ss_grd (fun hnb => ?_)
  refine ss_letr (fun w290 e_w290 => ?_)
  refine sv_newa (pc := 511) (kk := 20) (sv_d k_Mo_init 265 rfl) rfl wa20 hnb (sd_lets (fun s289 e_s289 => ?_))
  rw [← e_w290]
  refine sd_gd (fun k_k291 o_k291 l_k291 => ?_)
  refine sd_putRF (pc := 513) 71 (sv_d k_Mo_init 266 rfl) cf12 (by decide) rfl w1373 rfl rfl k_k291 o_k291 l_k291  (fun _ => rfl) (sd_lets (fun s292 e_s292 => ?_))
  refine sv_aload_n (pc := 516) 0 (sv_d k_Mo_init 267 rfl) rfl rfl ?_
  refine sv_bipush (pc := 517) (v := (10 : Int32)) (sv_d k_Mo_init 268 rfl) (by decide) ?_
  refine ss_grd (fun hnb => ?_)
  refine ss_letr (fun w295 e_w295 => ?_)
  refine sv_newa (pc := 519) (kk := 20) (sv_d k_Mo_init 269 rfl) rfl wa20 hnb (sd_lets (fun s294 e_s294 => ?_))
  rw [← e_w295]
  refine sd_gd (fun k_k296 o_k296 l_k296 => ?_)
  refine sd_putRF (pc := 521) 72 (sv_d k_Mo_init 270 rfl) cf12 (by decide) rfl w1374 rfl rfl k_k296 o_k296 l_k296  (fun _ => rfl) (sd_lets (fun s297 e_s297 => ?_))
  refine sv_aload_n (pc := 524) 0 (sv_d k_Mo_init 271 rfl) rfl rfl ?_
  refine sv_iconst (pc := 525) (v := (0 : Int32)) (sv_d k_Mo_init 272 rfl) (by decide) ?_
  refine sd_gd (fun k_k298 o_k298 l_k298 => ?_)
  refine sd_putI (pc := 526) 73 (sv_d k_Mo_init 273 rfl) cf12 (by decide) rfl w1375 k_k298 o_k298 l_k298 rfl rfl (fun _ => rfl) (sd_lets (fun s299 e_s299 => ?_))
  refine sv_aload_n (pc := 529) 0 (sv_d k_Mo_init 274 rfl) rfl rfl ?_
  refine sv_bipush (pc := 530) (v := (20 : Int32)) (sv_d k_Mo_init 275 rfl) (by decide) ?_
  refine ss_grd (fun hnb => ?_)
  refine ss_letr (fun w302 e_w302 => ?_)
  refine sv_newa (pc := 532) (kk := 20) (sv_d k_Mo_init 276 rfl) rfl wa20 hnb (sd_lets (fun s301 e_s301 => ?_))
  rw [← e_w302]
  refine sd_gd (fun k_k303 o_k303 l_k303 => ?_)
  refine sd_putRF (pc := 534) 74 (sv_d k_Mo_init 277 rfl) cf12 (by decide) rfl w1376 rfl rfl k_k303 o_k303 l_k303  (fun _ => rfl) (sd_lets (fun s304 e_s304 => ?_))
  refine sv_aload_n (pc := 537) 0 (sv_d k_Mo_init 278 rfl) rfl rfl ?_
  refine sv_bipush (pc := 538) (v := (6 : Int32)) (sv_d k_Mo_init 279 rfl) (by decide) ?_
  refine ss_grd (fun hnb => ?_)
  refine ss_letr (fun w307 e_w307 => ?_)
  refine sv_newa (pc := 540) (kk := 20) (sv_d k_Mo_init 280 rfl) rfl wa20 hnb (sd_lets (fun s306 e_s306 => ?_))
  rw [← e_w307]
  refine sv_dup (pc := 542) (sv_d k_Mo_init 281 rfl) rfl ?_
  refine sv_iconst (pc := 543) (v := (0 : Int32)) (sv_d k_Mo_init 282 rfl) (by decide) ?_
  refine sv_iconst (pc := 544) (v := (-1 : Int32)) (sv_d k_Mo_init 283 rfl) (by decide) ?_
  refine sd_gd (fun k_k308 o_k308 l_k308 => ?_)
  refine ss_ib (fun hin => sv_iast (pc := 545) (sv_d k_Mo_init 284 rfl) k_k308 o_k308 l_k308 hin (sd_lets (fun s309 e_s309 => ?_)))
  refine sv_dup (pc := 546) (sv_d k_Mo_init 285 rfl) rfl ?_
  refine sv_iconst (pc := 547) (v := (1 : Int32)) (sv_d k_Mo_init 286 rfl) (by decide) ?_
  refine sv_iconst (pc := 548) (v := (-1 : Int32)) (sv_d k_Mo_init 287 rfl) (by decide) ?_
  refine sd_gd (fun k_k310 o_k310 l_k310 => ?_)
  refine ss_ib (fun hin => sv_iast (pc := 549) (sv_d k_Mo_init 288 rfl) k_k310 o_k310 l_k310 hin (sd_lets (fun s311 e_s311 => ?_)))
  refine sv_dup (pc := 550) (sv_d k_Mo_init 289 rfl) rfl ?_
  refine sv_iconst (pc := 551) (v := (2 : Int32)) (sv_d k_Mo_init 290 rfl) (by decide) ?_
  refine sv_iconst (pc := 552) (v := (-1 : Int32)) (sv_d k_Mo_init 291 rfl) (by decide) ?_
  refine sd_gd (fun k_k312 o_k312 l_k312 => ?_)
  refine ss_ib (fun hin => sv_iast (pc := 553) (sv_d k_Mo_init 292 rfl) k_k312 o_k312 l_k312 hin (sd_lets (fun s313 e_s313 => ?_)))
  refine sv_dup (pc := 554) (sv_d k_Mo_init 293 rfl) rfl ?_
  refine sv_iconst (pc := 555) (v := (3 : Int32)) (sv_d k_Mo_init 294 rfl) (by decide) ?_
  refine sv_iconst (pc := 556) (v := (-1 : Int32)) (sv_d k_Mo_init 295 rfl) (by decide) ?_
  refine sd_gd (fun k_k314 o_k314 l_k314 => ?_)
  refine ss_ib (fun hin => sv_iast (pc := 557) (sv_d k_Mo_init 296 rfl) k_k314 o_k314 l_k314 hin (sd_lets (fun s315 e_s315 => ?_)))
  refine sv_dup (pc := 558) (sv_d k_Mo_init 297 rfl) rfl ?_
  refine sv_iconst (pc := 559) (v := (4 : Int32)) (sv_d k_Mo_init 298 rfl) (by decide) ?_
  refine sv_iconst (pc := 560) (v := (-1 : Int32)) (sv_d k_Mo_init 299 rfl) (by decide) ?_
  refine sd_gd (fun k_k316 o_k316 l_k316 => ?_)
  refine ss_ib (fun hin => sv_iast (pc := 561) (sv_d k_Mo_init 300 rfl) k_k316 o_k316 l_k316 hin (sd_lets (fun s317 e_s317 => ?_)))
  refine sv_dup (pc := 562) (sv_d k_Mo_init 301 rfl) rfl ?_
  refine sv_iconst (pc := 563) (v := (5 : Int32)) (sv_d k_Mo_init 302 rfl) (by decide) ?_
  refine sv_iconst (pc := 564) (v := (-1 : Int32)) (sv_d k_Mo_init 303 rfl) (by decide) ?_
  refine sd_gd (fun k_k318 o_k318 l_k318 => ?_)
  refine ss_ib (fun hin => sv_iast (pc := 565) (sv_d k_Mo_init 304 rfl) k_k318 o_k318 l_k318 hin (sd_lets (fun s319 e_s319 => ?_)))
  refine sd_gd (fun k_k320 o_k320 l_k320 => ?_)
  refine sd_putRF (pc := 566) 75 (sv_d k_Mo_init 305 rfl) cf12 (by decide) rfl w1377 rfl rfl k_k320 o_k320 l_k320  (fun _ => rfl) (sd_lets (fun s321 e_s321 => ?_))
  refine sv_aload_n (pc := 569) 0 (sv_d k_Mo_init 306 rfl) rfl rfl ?_
  refine sv_bipush (pc := 570) (v := (6 : Int32)) (sv_d k_Mo_init 307 rfl) (by decide) ?_
  refine ss_grd (fun hnb => ?_)
  refine ss_letr (fun w324 e_w324 => ?_)
  refine sv_newa (pc := 572) (kk := 20) (sv_d k_Mo_init 308 rfl) rfl wa20 hnb (sd_lets (fun s323 e_s323 => ?_))
  rw [← e_w324]
  refine sd_gd (fun k_k325 o_k325 l_k325 => ?_)
  refine sd_putRF (pc := 574) 76 (sv_d k_Mo_init 309 rfl) cf12 (by decide) rfl w1378 rfl rfl k_k325 o_k325 l_k325  (fun _ => rfl) (sd_lets (fun s326 e_s326 => ?_))
  refine sv_aload_n (pc := 577) 0 (sv_d k_Mo_init 310 rfl) rfl rfl ?_
  refine sv_sipush (pc := 578) (v := (480 : Int32)) (sv_d k_Mo_init 311 rfl) (by decide) ?_
  refine ss_grd (fun hnb => ?_)
  refine ss_letr (fun w329 e_w329 => ?_)
  refine sv_newa (pc := 581) (kk := 21) (sv_d k_Mo_init 312 rfl) rfl wa21 hnb (sd_lets (fun s328 e_s328 => ?_))
  rw [← e_w329]
  refine sd_gd (fun k_k330 o_k330 l_k330 => ?_)
  refine sd_putRF (pc := 583) 77 (sv_d k_Mo_init 313 rfl) cf12 (by decide) rfl w1379 rfl rfl k_k330 o_k330 l_k330  (fun _ => rfl) (sd_lets (fun s331 e_s331 => ?_))
  refine sv_aload_n (pc := 586) 0 (sv_d k_Mo_init 314 rfl) rfl rfl ?_
  refine sv_bipush (pc := 587) (v := (80 : Int32)) (sv_d k_Mo_init 315 rfl) (by decide) ?_
  refine ss_grd (fun hnb => ?_)
  refine ss_letr (fun w334 e_w334 => ?_)
  refine sv_newa (pc := 589) (kk := 21) (sv_d k_Mo_init 316 rfl) rfl wa21 hnb (sd_lets (fun s333 e_s333 => ?_))
  rw [← e_w334]
  refine sd_gd (fun k_k335 o_k335 l_k335 => ?_)
  refine sd_putRF (pc := 591) 78 (sv_d k_Mo_init 317 rfl) cf12 (by decide) rfl w1380 rfl rfl k_k335 o_k335 l_k335  (fun _ => rfl) (sd_lets (fun s336 e_s336 => ?_))
  exact sv_retv (pc := 594) (sv_d k_Mo_init 318 rfl) rfl rfl
