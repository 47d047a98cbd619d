def M_L_law : gMt := (yL_law, cL_law, 9, (some .boolean), { frames := 12, cells := 601024, slots := 7293034, locals := 438 }, [(0, .new 8, 3, 7, 0), (3, .dup, 4, 0, 0), (4, .invokespecial 73, 7, 0, 0), (7, .astore_n 1, 8, 0, 0), (8, .new 74, 11, 8, 0), (11, .dup, 12, 0, 0), (12, .invokespecial 76, 15, 0, 0), (15, .astore_n 2, 16, 0, 0), (16, .iconst 1, 17, 0, 0), (17, .newarray .long, 19, 0, 0), (19, .astore_n 3, 20, 0, 0), (20, .iconst 0, 21, 0, 0), (21, .istore 4, 23, 0, 0), (23, .iload 4, 25, 0, 0), (25, .aload_n 0, 26, 0, 0), (26, .arraylength, 27, 0, 0), (27, .bipush 6, 29, 0, 0), (29, .isub, 30, 0, 0), (30, .if_icmp .gt 1393, 33, 1423, 0), (33, .aload_n 0, 34, 0, 0), (34, .iload 4, 36, 0, 0), (36, .iaload, 37, 0, 0), (37, .bipush 31, 39, 0, 0), (39, .iand, 40, 0, 0), (40, .tableswitch 1377 0 21 #[104, 177, 233, 246, 302, 370, 438, 534, 602, 658, 726, 782, 838, 894, 935, 991, 1071, 1151, 1219, 1287, 1350, 1363], 144, 0, 0), (144, .aload_n 1, 145, 0, 0), (145, .aload_n 0, 146, 0, 0), (146, .iload 4, 148, 0, 0), (148, .iconst 1, 149, 0, 0), (149, .iadd, 150, 0, 0), (150, .iaload, 151, 0, 0), (151, .aload_n 0, 152, 0, 0), (152, .iload 4, 154, 0, 0), (154, .iconst 2, 155, 0, 0), (155, .iadd, 156, 0, 0), (156, .iaload, 157, 0, 0), (157, .aload_n 0, 158, 0, 0), (158, .iload 4, 160, 0, 0), (160, .iconst 3, 161, 0, 0), (161, .iadd, 162, 0, 0), (162, .iaload, 163, 0, 0), (163, .aload_n 0, 164, 0, 0), (164, .iload 4, 166, 0, 0), (166, .iconst 4, 167, 0, 0), (167, .iadd, 168, 0, 0), (168, .iaload, 169, 0, 0), (169, .aload_n 0, 170, 0, 0), (170, .iload 4, 172, 0, 0), (172, .iconst 5, 173, 0, 0), (173, .iadd, 174, 0, 0), (174, .iaload, 175, 0, 0), (175, .invokevirtual 77, 178, 0, 0), (178, .aload_n 2, 179, 0, 0), (179, .aload_n 0, 180, 0, 0), (180, .iload 4, 182, 0, 0), (182, .iconst 1, 183, 0, 0), (183, .iadd, 184, 0, 0), (184, .iaload, 185, 0, 0), (185, .aload_n 0, 186, 0, 0), (186, .iload 4, 188, 0, 0), (188, .iconst 2, 189, 0, 0), (189, .iadd, 190, 0, 0), (190, .iaload, 191, 0, 0), (191, .aload_n 0, 192, 0, 0), (192, .iload 4, 194, 0, 0), (194, .iconst 3, 195, 0, 0), (195, .iadd, 196, 0, 0), (196, .iaload, 197, 0, 0), (197, .aload_n 0, 198, 0, 0), (198, .iload 4, 200, 0, 0), (200, .iconst 4, 201, 0, 0), (201, .iadd, 202, 0, 0), (202, .iaload, 203, 0, 0), (203, .aload_n 0, 204, 0, 0), (204, .iload 4, 206, 0, 0), (206, .iconst 5, 207, 0, 0), (207, .iadd, 208, 0, 0), (208, .iaload, 209, 0, 0), (209, .invokevirtual 81, 212, 0, 0), (212, .if_icmp .eq 1205, 215, 1417, 0), (215, .iconst 0, 216, 0, 0), (216, .ireturn, 217, 0, 0), (217, .aload_n 1, 218, 0, 0), (218, .aload_n 0, 219, 0, 0), (219, .iload 4, 221, 0, 0), (221, .iconst 1, 222, 0, 0), (222, .iadd, 223, 0, 0), (223, .iaload, 224, 0, 0), (224, .aload_n 3, 225, 0, 0), (225, .invokestatic 82, 228, 0, 0), (228, .istore 5, 230, 0, 0), (230, .aload_n 2, 231, 0, 0), (231, .aload_n 0, 232, 0, 0), (232, .iload 4, 234, 0, 0), (234, .iconst 1, 235, 0, 0), (235, .iadd, 236, 0, 0), (236, .iaload, 237, 0, 0), (237, .invokevirtual 87, 240, 0, 0), (240, .istore 6, 242, 0, 0), (242, .aload_n 2, 243, 0, 0), (243, .invokevirtual 88, 246, 0, 0), (246, .iload 5, 248, 0, 0), (248, .if_icmp .eq 5, 251, 253, 0), (251, .iconst 0, 252, 0, 0), (252, .ireturn, 253, 0, 0), (253, .iload 5, 255, 0, 0), (255, .ifCond .ne 15, 258, 270, 0), (258, .aload_n 3, 259, 0, 0), (259, .iconst 0, 260, 0, 0), (260, .laload, 261, 0, 0), (261, .iload 6, 263, 0, 0), (263, .i2l, 264, 0, 0), (264, .lcmp, 265, 0, 0), (265, .ifCond .eq 5, 268, 270, 0), (268, .iconst 0, 269, 0, 0), (269, .ireturn, 270, 0, 0), (270, .goto 1147, 273, 1417, 0), (273, .aload_n 1, 274, 0, 0), (274, .invokevirtual 92, 277, 0, 0), (277, .aload_n 2, 278, 0, 0), (278, .invokevirtual 95, 281, 0, 0), (281, .if_icmp .eq 1136, 284, 1417, 0), (284, .iconst 0, 285, 0, 0), (285, .ireturn, 286, 0, 0), (286, .aload_n 1, 287, 0, 0), (287, .aload_n 0, 288, 0, 0), (288, .iload 4, 290, 0, 0), (290, .iconst 1, 291, 0, 0), (291, .iadd, 292, 0, 0), (292, .iaload, 293, 0, 0), (293, .aload_n 3, 294, 0, 0), (294, .invokestatic 96, 297, 0, 0), (297, .istore 5, 299, 0, 0), (299, .aload_n 2, 300, 0, 0), (300, .aload_n 0, 301, 0, 0), (301, .iload 4, 303, 0, 0), (303, .iconst 1, 304, 0, 0), (304, .iadd, 305, 0, 0), (305, .iaload, 306, 0, 0), (306, .invokevirtual 98, 309, 0, 0), (309, .istore 6, 311, 0, 0), (311, .aload_n 2, 312, 0, 0), (312, .invokevirtual 88, 315, 0, 0), (315, .iload 5, 317, 0, 0), (317, .if_icmp .eq 5, 320, 322, 0), (320, .iconst 0, 321, 0, 0), (321, .ireturn, 322, 0, 0), (322, .iload 5, 324, 0, 0), (324, .ifCond .ne 15, 327, 339, 0), (327, .aload_n 3, 328, 0, 0), (328, .iconst 0, 329, 0, 0), (329, .laload, 330, 0, 0), (330, .iload 6, 332, 0, 0), (332, .i2l, 333, 0, 0), (333, .lcmp, 334, 0, 0), (334, .ifCond .eq 5, 337, 339, 0), (337, .iconst 0, 338, 0, 0), (338, .ireturn, 339, 0, 0), (339, .goto 1078, 342, 1417, 0), (342, .aload_n 1, 343, 0, 0), (343, .aload_n 0, 344, 0, 0), (344, .iload 4, 346, 0, 0), (346, .iconst 1, 347, 0, 0), (347, .iadd, 348, 0, 0), (348, .iaload, 349, 0, 0), (349, .aload_n 0, 350, 0, 0), (350, .iload 4, 352, 0, 0), (352, .iconst 2, 353, 0, 0), (353, .iadd, 354, 0, 0), (354, .iaload, 355, 0, 0), (355, .aload_n 3, 356, 0, 0), (356, .invokestatic 99, 359, 0, 0), (359, .istore 5, 361, 0, 0), (361, .aload_n 2, 362, 0, 0), (362, .aload_n 0, 363, 0, 0), (363, .iload 4, 365, 0, 0), (365, .iconst 1, 366, 0, 0), (366, .iadd, 367, 0, 0), (367, .iaload, 368, 0, 0), (368, .aload_n 0, 369, 0, 0), (369, .iload 4, 371, 0, 0), (371, .iconst 2, 372, 0, 0), (372, .iadd, 373, 0, 0), (373, .iaload, 374, 0, 0), (374, .invokevirtual 102, 377, 0, 0), (377, .istore 6, 379, 0, 0), (379, .aload_n 2, 380, 0, 0), (380, .invokevirtual 88, 383, 0, 0), (383, .iload 5, 385, 0, 0), (385, .if_icmp .eq 5, 388, 390, 0), (388, .iconst 0, 389, 0, 0), (389, .ireturn, 390, 0, 0), (390, .iload 5, 392, 0, 0), (392, .ifCond .ne 15, 395, 407, 0), (395, .aload_n 3, 396, 0, 0), (396, .iconst 0, 397, 0, 0), (397, .laload, 398, 0, 0), (398, .iload 6, 400, 0, 0), (400, .i2l, 401, 0, 0), (401, .lcmp, 402, 0, 0), (402, .ifCond .eq 5, 405, 407, 0), (405, .iconst 0, 406, 0, 0), (406, .ireturn, 407, 0, 0), (407, .goto 1010, 410, 1417, 0), (410, .aload_n 1, 411, 0, 0), (411, .aload_n 0, 412, 0, 0), (412, .iload 4, 414, 0, 0), (414, .iconst 1, 415, 0, 0), (415, .iadd, 416, 0, 0), (416, .iaload, 417, 0, 0), (417, .aload_n 0, 418, 0, 0), (418, .iload 4, 420, 0, 0), (420, .iconst 2, 421, 0, 0), (421, .iadd, 422, 0, 0), (422, .iaload, 423, 0, 0), (423, .aload_n 3, 424, 0, 0), (424, .invokestatic 103, 427, 0, 0), (427, .istore 5, 429, 0, 0), (429, .aload_n 2, 430, 0, 0), (430, .aload_n 0, 431, 0, 0), (431, .iload 4, 433, 0, 0), (433, .iconst 1, 434, 0, 0), (434, .iadd, 435, 0, 0), (435, .iaload, 436, 0, 0), (436, .aload_n 0, 437, 0, 0), (437, .iload 4, 439, 0, 0), (439, .iconst 2, 440, 0, 0), (440, .iadd, 441, 0, 0), (441, .iaload, 442, 0, 0), (442, .invokevirtual 105, 445, 0, 0), (445, .istore 6, 447, 0, 0), (447, .aload_n 2, 448, 0, 0), (448, .invokevirtual 88, 451, 0, 0), (451, .iload 5, 453, 0, 0), (453, .if_icmp .eq 5, 456, 458, 0), (456, .iconst 0, 457, 0, 0), (457, .ireturn, 458, 0, 0), (458, .iload 5, 460, 0, 0), (460, .ifCond .ne 15, 463, 475, 0), (463, .aload_n 3, 464, 0, 0), (464, .iconst 0, 465, 0, 0), (465, .laload, 466, 0, 0), (466, .iload 6, 468, 0, 0), (468, .i2l, 469, 0, 0), (469, .lcmp, 470, 0, 0), (470, .ifCond .eq 5, 473, 475, 0), (473, .iconst 0, 474, 0, 0), (474, .ireturn, 475, 0, 0), (475, .goto 942, 478, 1417, 0), (478, .aload_n 1, 479, 0, 0), (479, .aload_n 0, 480, 0, 0), (480, .iload 4, 482, 0, 0), (482, .iconst 1, 483, 0, 0), (483, .iadd, 484, 0, 0), (484, .iaload, 485, 0, 0), (485, .aload_n 0, 486, 0, 0), (486, .iload 4, 488, 0, 0), (488, .iconst 2, 489, 0, 0), (489, .iadd, 490, 0, 0), (490, .iaload, 491, 0, 0), (491, .aload_n 0, 492, 0, 0), (492, .iload 4, 494, 0, 0), (494, .iconst 3, 495, 0, 0), (495, .iadd, 496, 0, 0), (496, .iaload, 497, 0, 0), (497, .ifCond .eq 7, 500, 504, 0), (500, .iconst 1, 501, 0, 0), (501, .goto 4, 504, 505, 0), (504, .iconst 0, 505, 0, 0), (505, .aload_n 3, 506, 0, 0), (506, .invokestatic 106, 509, 0, 0), (509, .istore 5, 511, 0, 0), (511, .aload_n 2, 512, 0, 0), (512, .aload_n 0, 513, 0, 0), (513, .iload 4, 515, 0, 0), (515, .iconst 1, 516, 0, 0), (516, .iadd, 517, 0, 0), (517, .iaload, 518, 0, 0), (518, .aload_n 0, 519, 0, 0), (519, .iload 4, 521, 0, 0), (521, .iconst 2, 522, 0, 0), (522, .iadd, 523, 0, 0), (523, .iaload, 524, 0, 0), (524, .aload_n 0, 525, 0, 0), (525, .iload 4, 527, 0, 0), (527, .iconst 3, 528, 0, 0), (528, .iadd, 529, 0, 0), (529, .iaload, 530, 0, 0), (530, .ifCond .eq 7, 533, 537, 0), (533, .iconst 1, 534, 0, 0), (534, .goto 4, 537, 538, 0), (537, .iconst 0, 538, 0, 0), (538, .invokevirtual 109, 541, 0, 0), (541, .istore 6, 543, 0, 0), (543, .aload_n 2, 544, 0, 0), (544, .invokevirtual 88, 547, 0, 0), (547, .iload 5, 549, 0, 0), (549, .if_icmp .eq 5, 552, 554, 0), (552, .iconst 0, 553, 0, 0), (553, .ireturn, 554, 0, 0), (554, .iload 5, 556, 0, 0), (556, .ifCond .ne 15, 559, 571, 0), (559, .aload_n 3, 560, 0, 0), (560, .iconst 0, 561, 0, 0), (561, .laload, 562, 0, 0), (562, .iload 6, 564, 0, 0), (564, .i2l, 565, 0, 0), (565, .lcmp, 566, 0, 0), (566, .ifCond .eq 5, 569, 571, 0), (569, .iconst 0, 570, 0, 0), (570, .ireturn, 571, 0, 0), (571, .goto 846, 574, 1417, 0), (574, .aload_n 1, 575, 0, 0), (575, .aload_n 0, 576, 0, 0), (576, .iload 4, 578, 0, 0), (578, .iconst 1, 579, 0, 0), (579, .iadd, 580, 0, 0), (580, .iaload, 581, 0, 0), (581, .aload_n 0, 582, 0, 0), (582, .iload 4, 584, 0, 0), (584, .iconst 2, 585, 0, 0), (585, .iadd, 586, 0, 0), (586, .iaload, 587, 0, 0), (587, .aload_n 3, 588, 0, 0), (588, .invokestatic 110, 591, 0, 0), (591, .istore 5, 593, 0, 0), (593, .aload_n 2, 594, 0, 0), (594, .aload_n 0, 595, 0, 0), (595, .iload 4, 597, 0, 0), (597, .iconst 1, 598, 0, 0), (598, .iadd, 599, 0, 0), (599, .iaload, 600, 0, 0), (600, .aload_n 0, 601, 0, 0), (601, .iload 4, 603, 0, 0), (603, .iconst 2, 604, 0, 0), (604, .iadd, 605, 0, 0), (605, .iaload, 606, 0, 0), (606, .invokevirtual 112, 609, 0, 0), (609, .istore 6, 611, 0, 0), (611, .aload_n 2, 612, 0, 0), (612, .invokevirtual 88, 615, 0, 0), (615, .iload 5, 617, 0, 0), (617, .if_icmp .eq 5, 620, 622, 0), (620, .iconst 0, 621, 0, 0), (621, .ireturn, 622, 0, 0), (622, .iload 5, 624, 0, 0), (624, .ifCond .ne 15, 627, 639, 0), (627, .aload_n 3, 628, 0, 0), (628, .iconst 0, 629, 0, 0), (629, .laload, 630, 0, 0), (630, .iload 6, 632, 0, 0), (632, .i2l, 633, 0, 0), (633, .lcmp, 634, 0, 0), (634, .ifCond .eq 5, 637, 639, 0), (637, .iconst 0, 638, 0, 0), (638, .ireturn, 639, 0, 0), (639, .goto 778, 642, 1417, 0), (642, .aload_n 1, 643, 0, 0), (643, .aload_n 0, 644, 0, 0), (644, .iload 4, 646, 0, 0), (646, .iconst 1, 647, 0, 0), (647, .iadd, 648, 0, 0), (648, .iaload, 649, 0, 0), (649, .aload_n 3, 650, 0, 0), (650, .invokestatic 113, 653, 0, 0), (653, .istore 5, 655, 0, 0), (655, .aload_n 2, 656, 0, 0), (656, .aload_n 0, 657, 0, 0), (657, .iload 4, 659, 0, 0), (659, .iconst 1, 660, 0, 0), (660, .iadd, 661, 0, 0), (661, .iaload, 662, 0, 0), (662, .invokevirtual 115, 665, 0, 0), (665, .istore 6, 667, 0, 0), (667, .aload_n 2, 668, 0, 0), (668, .invokevirtual 88, 671, 0, 0), (671, .iload 5, 673, 0, 0), (673, .if_icmp .eq 5, 676, 678, 0), (676, .iconst 0, 677, 0, 0), (677, .ireturn, 678, 0, 0), (678, .iload 5, 680, 0, 0), (680, .ifCond .ne 15, 683, 695, 0), (683, .aload_n 3, 684, 0, 0), (684, .iconst 0, 685, 0, 0), (685, .laload, 686, 0, 0), (686, .iload 6, 688, 0, 0), (688, .i2l, 689, 0, 0), (689, .lcmp, 690, 0, 0), (690, .ifCond .eq 5, 693, 695, 0), (693, .iconst 0, 694, 0, 0), (694, .ireturn, 695, 0, 0), (695, .goto 722, 698, 1417, 0), (698, .aload_n 1, 699, 0, 0), (699, .aload_n 0, 700, 0, 0), (700, .iload 4, 702, 0, 0), (702, .iconst 1, 703, 0, 0), (703, .iadd, 704, 0, 0), (704, .iaload, 705, 0, 0), (705, .aload_n 0, 706, 0, 0), (706, .iload 4, 708, 0, 0), (708, .iconst 2, 709, 0, 0), (709, .iadd, 710, 0, 0), (710, .iaload, 711, 0, 0), (711, .aload_n 3, 712, 0, 0), (712, .invokestatic 116, 715, 0, 0), (715, .istore 5, 717, 0, 0), (717, .aload_n 2, 718, 0, 0), (718, .aload_n 0, 719, 0, 0), (719, .iload 4, 721, 0, 0), (721, .iconst 1, 722, 0, 0), (722, .iadd, 723, 0, 0), (723, .iaload, 724, 0, 0), (724, .aload_n 0, 725, 0, 0), (725, .iload 4, 727, 0, 0), (727, .iconst 2, 728, 0, 0), (728, .iadd, 729, 0, 0), (729, .iaload, 730, 0, 0), (730, .invokevirtual 118, 733, 0, 0), (733, .istore 6, 735, 0, 0), (735, .aload_n 2, 736, 0, 0), (736, .invokevirtual 88, 739, 0, 0), (739, .iload 5, 741, 0, 0), (741, .if_icmp .eq 5, 744, 746, 0), (744, .iconst 0, 745, 0, 0), (745, .ireturn, 746, 0, 0), (746, .iload 5, 748, 0, 0), (748, .ifCond .ne 15, 751, 763, 0), (751, .aload_n 3, 752, 0, 0), (752, .iconst 0, 753, 0, 0), (753, .laload, 754, 0, 0), (754, .iload 6, 756, 0, 0), (756, .i2l, 757, 0, 0), (757, .lcmp, 758, 0, 0), (758, .ifCond .eq 5, 761, 763, 0), (761, .iconst 0, 762, 0, 0), (762, .ireturn, 763, 0, 0), (763, .goto 654, 766, 1417, 0), (766, .aload_n 1, 767, 0, 0), (767, .aload_n 0, 768, 0, 0), (768, .iload 4, 770, 0, 0), (770, .iconst 1, 771, 0, 0), (771, .iadd, 772, 0, 0), (772, .iaload, 773, 0, 0), (773, .aload_n 3, 774, 0, 0), (774, .invokestatic 119, 777, 0, 0), (777, .istore 5, 779, 0, 0), (779, .aload_n 2, 780, 0, 0), (780, .aload_n 0, 781, 0, 0), (781, .iload 4, 783, 0, 0), (783, .iconst 1, 784, 0, 0), (784, .iadd, 785, 0, 0), (785, .iaload, 786, 0, 0), (786, .invokevirtual 121, 789, 0, 0), (789, .istore 6, 791, 0, 0), (791, .aload_n 2, 792, 0, 0), (792, .invokevirtual 88, 795, 0, 0), (795, .iload 5, 797, 0, 0), (797, .if_icmp .eq 5, 800, 802, 0), (800, .iconst 0, 801, 0, 0), (801, .ireturn, 802, 0, 0), (802, .iload 5, 804, 0, 0), (804, .ifCond .ne 15, 807, 819, 0), (807, .aload_n 3, 808, 0, 0), (808, .iconst 0, 809, 0, 0), (809, .laload, 810, 0, 0), (810, .iload 6, 812, 0, 0), (812, .i2l, 813, 0, 0), (813, .lcmp, 814, 0, 0), (814, .ifCond .eq 5, 817, 819, 0), (817, .iconst 0, 818, 0, 0), (818, .ireturn, 819, 0, 0), (819, .goto 598, 822, 1417, 0), (822, .aload_n 1, 823, 0, 0), (823, .aload_n 0, 824, 0, 0), (824, .iload 4, 826, 0, 0), (826, .iconst 1, 827, 0, 0), (827, .iadd, 828, 0, 0), (828, .iaload, 829, 0, 0), (829, .aload_n 3, 830, 0, 0), (830, .invokestatic 122, 833, 0, 0), (833, .istore 5, 835, 0, 0), (835, .aload_n 2, 836, 0, 0), (836, .aload_n 0, 837, 0, 0), (837, .iload 4, 839, 0, 0), (839, .iconst 1, 840, 0, 0), (840, .iadd, 841, 0, 0), (841, .iaload, 842, 0, 0), (842, .invokevirtual 124, 845, 0, 0), (845, .istore 6, 847, 0, 0), (847, .aload_n 2, 848, 0, 0), (848, .invokevirtual 88, 851, 0, 0), (851, .iload 5, 853, 0, 0), (853, .if_icmp .eq 5, 856, 858, 0), (856, .iconst 0, 857, 0, 0), (857, .ireturn, 858, 0, 0), (858, .iload 5, 860, 0, 0), (860, .ifCond .ne 15, 863, 875, 0), (863, .aload_n 3, 864, 0, 0), (864, .iconst 0, 865, 0, 0), (865, .laload, 866, 0, 0), (866, .iload 6, 868, 0, 0), (868, .i2l, 869, 0, 0), (869, .lcmp, 870, 0, 0), (870, .ifCond .eq 5, 873, 875, 0), (873, .iconst 0, 874, 0, 0), (874, .ireturn, 875, 0, 0), (875, .goto 542, 878, 1417, 0), (878, .aload_n 1, 879, 0, 0), (879, .aload_n 0, 880, 0, 0), (880, .iload 4, 882, 0, 0), (882, .iconst 1, 883, 0, 0), (883, .iadd, 884, 0, 0), (884, .iaload, 885, 0, 0), (885, .aload_n 3, 886, 0, 0), (886, .invokestatic 125, 889, 0, 0), (889, .istore 5, 891, 0, 0), (891, .aload_n 2, 892, 0, 0), (892, .aload_n 0, 893, 0, 0), (893, .iload 4, 895, 0, 0), (895, .iconst 1, 896, 0, 0), (896, .iadd, 897, 0, 0), (897, .iaload, 898, 0, 0), (898, .invokevirtual 127, 901, 0, 0), (901, .istore 6, 903, 0, 0), (903, .aload_n 2, 904, 0, 0), (904, .invokevirtual 88, 907, 0, 0), (907, .iload 5, 909, 0, 0), (909, .if_icmp .eq 5, 912, 914, 0), (912, .iconst 0, 913, 0, 0), (913, .ireturn, 914, 0, 0), (914, .iload 5, 916, 0, 0), (916, .ifCond .ne 15, 919, 931, 0), (919, .aload_n 3, 920, 0, 0), (920, .iconst 0, 921, 0, 0), (921, .laload, 922, 0, 0), (922, .iload 6, 924, 0, 0), (924, .i2l, 925, 0, 0), (925, .lcmp, 926, 0, 0), (926, .ifCond .eq 5, 929, 931, 0), (929, .iconst 0, 930, 0, 0), (930, .ireturn, 931, 0, 0), (931, .goto 486, 934, 1417, 0), (934, .aload_n 1, 935, 0, 0), (935, .invokevirtual 128, 938, 0, 0), (938, .dstore 5, 940, 0, 0), (940, .aload_n 2, 941, 0, 0), (941, .invokevirtual 132, 944, 0, 0), (944, .dstore 7, 946, 0, 0), (946, .dload 5, 948, 0, 0), (948, .dload 7, 950, 0, 0), (950, .dcmp .l, 951, 0, 0), (951, .ifCond .eq 21, 954, 972, 0), (954, .dload 5, 956, 0, 0), (956, .dload 5, 958, 0, 0), (958, .dcmp .l, 959, 0, 0), (959, .ifCond .eq 11, 962, 970, 0), (962, .dload 7, 964, 0, 0), (964, .dload 7, 966, 0, 0), (966, .dcmp .l, 967, 0, 0), (967, .ifCond .ne 5, 970, 972, 0), (970, .iconst 0, 971, 0, 0), (971, .ireturn, 972, 0, 0), (972, .goto 445, 975, 1417, 0), (975, .aload_n 1, 976, 0, 0), (976, .aload_n 0, 977, 0, 0), (977, .iload 4, 979, 0, 0), (979, .iconst 1, 980, 0, 0), (980, .iadd, 981, 0, 0), (981, .iaload, 982, 0, 0), (982, .aload_n 3, 983, 0, 0), (983, .invokestatic 133, 986, 0, 0), (986, .istore 5, 988, 0, 0), (988, .aload_n 2, 989, 0, 0), (989, .aload_n 0, 990, 0, 0), (990, .iload 4, 992, 0, 0), (992, .iconst 1, 993, 0, 0), (993, .iadd, 994, 0, 0), (994, .iaload, 995, 0, 0), (995, .invokevirtual 135, 998, 0, 0), (998, .istore 6, 1000, 0, 0), (1000, .aload_n 2, 1001, 0, 0), (1001, .invokevirtual 88, 1004, 0, 0), (1004, .iload 5, 1006, 0, 0), (1006, .if_icmp .eq 5, 1009, 1011, 0), (1009, .iconst 0, 1010, 0, 0), (1010, .ireturn, 1011, 0, 0), (1011, .iload 5, 1013, 0, 0), (1013, .ifCond .ne 15, 1016, 1028, 0), (1016, .aload_n 3, 1017, 0, 0), (1017, .iconst 0, 1018, 0, 0), (1018, .laload, 1019, 0, 0), (1019, .iload 6, 1021, 0, 0), (1021, .i2l, 1022, 0, 0), (1022, .lcmp, 1023, 0, 0), (1023, .ifCond .eq 5, 1026, 1028, 0), (1026, .iconst 0, 1027, 0, 0), (1027, .ireturn, 1028, 0, 0), (1028, .goto 389, 1031, 1417, 0), (1031, .aload_n 1, 1032, 0, 0), (1032, .aload_n 0, 1033, 0, 0), (1033, .iload 4, 1035, 0, 0), (1035, .iconst 1, 1036, 0, 0), (1036, .iadd, 1037, 0, 0), (1037, .iaload, 1038, 0, 0), (1038, .aload_n 0, 1039, 0, 0), (1039, .iload 4, 1041, 0, 0), (1041, .iconst 2, 1042, 0, 0), (1042, .iadd, 1043, 0, 0), (1043, .iaload, 1044, 0, 0), (1044, .aload_n 0, 1045, 0, 0), (1045, .iload 4, 1047, 0, 0), (1047, .iconst 3, 1048, 0, 0), (1048, .iadd, 1049, 0, 0), (1049, .iaload, 1050, 0, 0), (1050, .aload_n 3, 1051, 0, 0), (1051, .invokestatic 136, 1054, 0, 0), (1054, .istore 5, 1056, 0, 0), (1056, .aload_n 2, 1057, 0, 0), (1057, .aload_n 0, 1058, 0, 0), (1058, .iload 4, 1060, 0, 0), (1060, .iconst 1, 1061, 0, 0), (1061, .iadd, 1062, 0, 0), (1062, .iaload, 1063, 0, 0), (1063, .aload_n 0, 1064, 0, 0), (1064, .iload 4, 1066, 0, 0), (1066, .iconst 2, 1067, 0, 0), (1067, .iadd, 1068, 0, 0), (1068, .iaload, 1069, 0, 0), (1069, .aload_n 0, 1070, 0, 0), (1070, .iload 4, 1072, 0, 0), (1072, .iconst 3, 1073, 0, 0), (1073, .iadd, 1074, 0, 0), (1074, .iaload, 1075, 0, 0), (1075, .invokevirtual 139, 1078, 0, 0), (1078, .istore 6, 1080, 0, 0), (1080, .aload_n 2, 1081, 0, 0), (1081, .invokevirtual 88, 1084, 0, 0), (1084, .iload 5, 1086, 0, 0), (1086, .if_icmp .eq 5, 1089, 1091, 0), (1089, .iconst 0, 1090, 0, 0), (1090, .ireturn, 1091, 0, 0), (1091, .iload 5, 1093, 0, 0), (1093, .ifCond .ne 15, 1096, 1108, 0), (1096, .aload_n 3, 1097, 0, 0), (1097, .iconst 0, 1098, 0, 0), (1098, .laload, 1099, 0, 0), (1099, .iload 6, 1101, 0, 0), (1101, .i2l, 1102, 0, 0), (1102, .lcmp, 1103, 0, 0), (1103, .ifCond .eq 5, 1106, 1108, 0), (1106, .iconst 0, 1107, 0, 0), (1107, .ireturn, 1108, 0, 0), (1108, .goto 309, 1111, 1417, 0), (1111, .aload_n 1, 1112, 0, 0), (1112, .aload_n 0, 1113, 0, 0), (1113, .iload 4, 1115, 0, 0), (1115, .iconst 1, 1116, 0, 0), (1116, .iadd, 1117, 0, 0), (1117, .iaload, 1118, 0, 0), (1118, .aload_n 0, 1119, 0, 0), (1119, .iload 4, 1121, 0, 0), (1121, .iconst 2, 1122, 0, 0), (1122, .iadd, 1123, 0, 0), (1123, .iaload, 1124, 0, 0), (1124, .aload_n 0, 1125, 0, 0), (1125, .iload 4, 1127, 0, 0), (1127, .iconst 3, 1128, 0, 0), (1128, .iadd, 1129, 0, 0), (1129, .iaload, 1130, 0, 0), (1130, .aload_n 3, 1131, 0, 0), (1131, .invokestatic 140, 1134, 0, 0), (1134, .istore 5, 1136, 0, 0), (1136, .aload_n 2, 1137, 0, 0), (1137, .aload_n 0, 1138, 0, 0), (1138, .iload 4, 1140, 0, 0), (1140, .iconst 1, 1141, 0, 0), (1141, .iadd, 1142, 0, 0), (1142, .iaload, 1143, 0, 0), (1143, .aload_n 0, 1144, 0, 0), (1144, .iload 4, 1146, 0, 0), (1146, .iconst 2, 1147, 0, 0), (1147, .iadd, 1148, 0, 0), (1148, .iaload, 1149, 0, 0), (1149, .aload_n 0, 1150, 0, 0), (1150, .iload 4, 1152, 0, 0), (1152, .iconst 3, 1153, 0, 0), (1153, .iadd, 1154, 0, 0), (1154, .iaload, 1155, 0, 0), (1155, .invokevirtual 142, 1158, 0, 0), (1158, .istore 6, 1160, 0, 0), (1160, .aload_n 2, 1161, 0, 0), (1161, .invokevirtual 88, 1164, 0, 0), (1164, .iload 5, 1166, 0, 0), (1166, .if_icmp .eq 5, 1169, 1171, 0), (1169, .iconst 0, 1170, 0, 0), (1170, .ireturn, 1171, 0, 0), (1171, .iload 5, 1173, 0, 0), (1173, .ifCond .ne 15, 1176, 1188, 0), (1176, .aload_n 3, 1177, 0, 0), (1177, .iconst 0, 1178, 0, 0), (1178, .laload, 1179, 0, 0), (1179, .iload 6, 1181, 0, 0), (1181, .i2l, 1182, 0, 0), (1182, .lcmp, 1183, 0, 0), (1183, .ifCond .eq 5, 1186, 1188, 0), (1186, .iconst 0, 1187, 0, 0), (1187, .ireturn, 1188, 0, 0), (1188, .goto 229, 1191, 1417, 0), (1191, .aload_n 1, 1192, 0, 0), (1192, .aload_n 0, 1193, 0, 0), (1193, .iload 4, 1195, 0, 0), (1195, .iconst 1, 1196, 0, 0), (1196, .iadd, 1197, 0, 0), (1197, .iaload, 1198, 0, 0), (1198, .aload_n 0, 1199, 0, 0), (1199, .iload 4, 1201, 0, 0), (1201, .iconst 2, 1202, 0, 0), (1202, .iadd, 1203, 0, 0), (1203, .iaload, 1204, 0, 0), (1204, .aload_n 3, 1205, 0, 0), (1205, .invokestatic 143, 1208, 0, 0), (1208, .istore 5, 1210, 0, 0), (1210, .aload_n 2, 1211, 0, 0), (1211, .aload_n 0, 1212, 0, 0), (1212, .iload 4, 1214, 0, 0), (1214, .iconst 1, 1215, 0, 0), (1215, .iadd, 1216, 0, 0), (1216, .iaload, 1217, 0, 0), (1217, .aload_n 0, 1218, 0, 0), (1218, .iload 4, 1220, 0, 0), (1220, .iconst 2, 1221, 0, 0), (1221, .iadd, 1222, 0, 0), (1222, .iaload, 1223, 0, 0), (1223, .invokevirtual 145, 1226, 0, 0), (1226, .istore 6, 1228, 0, 0), (1228, .aload_n 2, 1229, 0, 0), (1229, .invokevirtual 88, 1232, 0, 0), (1232, .iload 5, 1234, 0, 0), (1234, .if_icmp .eq 5, 1237, 1239, 0), (1237, .iconst 0, 1238, 0, 0), (1238, .ireturn, 1239, 0, 0), (1239, .iload 5, 1241, 0, 0), (1241, .ifCond .ne 15, 1244, 1256, 0), (1244, .aload_n 3, 1245, 0, 0), (1245, .iconst 0, 1246, 0, 0), (1246, .laload, 1247, 0, 0), (1247, .iload 6, 1249, 0, 0), (1249, .i2l, 1250, 0, 0), (1250, .lcmp, 1251, 0, 0), (1251, .ifCond .eq 5, 1254, 1256, 0), (1254, .iconst 0, 1255, 0, 0), (1255, .ireturn, 1256, 0, 0), (1256, .goto 161, 1259, 1417, 0), (1259, .aload_n 1, 1260, 0, 0), (1260, .aload_n 0, 1261, 0, 0), (1261, .iload 4, 1263, 0, 0), (1263, .iconst 1, 1264, 0, 0), (1264, .iadd, 1265, 0, 0), (1265, .iaload, 1266, 0, 0), (1266, .aload_n 0, 1267, 0, 0), (1267, .iload 4, 1269, 0, 0), (1269, .iconst 2, 1270, 0, 0), (1270, .iadd, 1271, 0, 0), (1271, .iaload, 1272, 0, 0), (1272, .aload_n 3, 1273, 0, 0), (1273, .invokestatic 146, 1276, 0, 0), (1276, .istore 5, 1278, 0, 0), (1278, .aload_n 2, 1279, 0, 0), (1279, .aload_n 0, 1280, 0, 0), (1280, .iload 4, 1282, 0, 0), (1282, .iconst 1, 1283, 0, 0), (1283, .iadd, 1284, 0, 0), (1284, .iaload, 1285, 0, 0), (1285, .aload_n 0, 1286, 0, 0), (1286, .iload 4, 1288, 0, 0), (1288, .iconst 2, 1289, 0, 0), (1289, .iadd, 1290, 0, 0), (1290, .iaload, 1291, 0, 0), (1291, .invokevirtual 148, 1294, 0, 0), (1294, .istore 6, 1296, 0, 0), (1296, .aload_n 2, 1297, 0, 0), (1297, .invokevirtual 88, 1300, 0, 0), (1300, .iload 5, 1302, 0, 0), (1302, .if_icmp .eq 5, 1305, 1307, 0), (1305, .iconst 0, 1306, 0, 0), (1306, .ireturn, 1307, 0, 0), (1307, .iload 5, 1309, 0, 0), (1309, .ifCond .ne 15, 1312, 1324, 0), (1312, .aload_n 3, 1313, 0, 0), (1313, .iconst 0, 1314, 0, 0), (1314, .laload, 1315, 0, 0), (1315, .iload 6, 1317, 0, 0), (1317, .i2l, 1318, 0, 0), (1318, .lcmp, 1319, 0, 0), (1319, .ifCond .eq 5, 1322, 1324, 0), (1322, .iconst 0, 1323, 0, 0), (1323, .ireturn, 1324, 0, 0), (1324, .goto 93, 1327, 1417, 0), (1327, .aload_n 1, 1328, 0, 0), (1328, .aload_n 0, 1329, 0, 0), (1329, .iload 4, 1331, 0, 0), (1331, .iconst 1, 1332, 0, 0), (1332, .iadd, 1333, 0, 0), (1333, .iaload, 1334, 0, 0), (1334, .aload_n 3, 1335, 0, 0), (1335, .invokestatic 149, 1338, 0, 0), (1338, .istore 5, 1340, 0, 0), (1340, .aload_n 2, 1341, 0, 0), (1341, .aload_n 0, 1342, 0, 0), (1342, .iload 4, 1344, 0, 0), (1344, .iconst 1, 1345, 0, 0), (1345, .iadd, 1346, 0, 0), (1346, .iaload, 1347, 0, 0), (1347, .invokevirtual 151, 1350, 0, 0), (1350, .istore 6, 1352, 0, 0), (1352, .aload_n 2, 1353, 0, 0), (1353, .invokevirtual 88, 1356, 0, 0), (1356, .iload 5, 1358, 0, 0), (1358, .if_icmp .eq 5, 1361, 1363, 0), (1361, .iconst 0, 1362, 0, 0), (1362, .ireturn, 1363, 0, 0), (1363, .iload 5, 1365, 0, 0), (1365, .ifCond .ne 22, 1368, 1387, 0), (1368, .aload_n 3, 1369, 0, 0), (1369, .iconst 0, 1370, 0, 0), (1370, .laload, 1371, 0, 0), (1371, .iload 6, 1373, 0, 0), (1373, .ifCond .eq 7, 1376, 1380, 0), (1376, .lconst 1, 1377, 0, 0), (1377, .goto 4, 1380, 1381, 0), (1380, .lconst 0, 1381, 0, 0), (1381, .lcmp, 1382, 0, 0), (1382, .ifCond .eq 5, 1385, 1387, 0), (1385, .iconst 0, 1386, 0, 0), (1386, .ireturn, 1387, 0, 0), (1387, .goto 30, 1390, 1417, 0), (1390, .aload_n 1, 1391, 0, 0), (1391, .invokevirtual 152, 1394, 0, 0), (1394, .aload_n 2, 1395, 0, 0), (1395, .invokevirtual 155, 1398, 0, 0), (1398, .if_icmp .eq 19, 1401, 1417, 0), (1401, .iconst 0, 1402, 0, 0), (1402, .ireturn, 1403, 0, 0), (1403, .aload_n 1, 1404, 0, 0), (1404, .invokevirtual 156, 1407, 0, 0), (1407, .aload_n 2, 1408, 0, 0), (1408, .invokevirtual 160, 1411, 0, 0), (1411, .lcmp, 1412, 0, 0), (1412, .ifCond .eq 5, 1415, 1417, 0), (1415, .iconst 0, 1416, 0, 0), (1416, .ireturn, 1417, 0, 0), (1417, .iinc 4 6, 1420, 0, 0), (1420, .goto (-1397), 1423, 23, 0), (1423, .iconst 1, 1424, 0, 0), (1424, .ireturn, 1425, 0, 0)], [])
theorem ok_L_law : g_ok M_L_law := by
  show (m_code M_L_law).all (g_ent M_L_law) = true
  decide +kernel
theorem g_ble {a b : Nat} (h : a ≤ b) : Nat.ble a b = true := Nat.ble_eq_true_of_le h
/-- what is told of the law's run: as long as Q holds of its start -/
def g_phL (Q : State → Array Value → List Frame → Prop) (Z : State → Prop) : Unit → Method → Code → State → Array Value → List Frame → State → Prop := fun _ _ _ s args below t => Q s args below → Z t
section LAW
variable {l : Launch} {G : gG} {Q : State → Array Value → List Frame → Prop} {Z : State → Prop} {M : gMt} {k n pc nx x1 x2 : Nat} {L : List (Option Value)} {st : List Value} {h : gH} {F : Option Unit} {b N : Nat} {xs : Nat → Int32}
/-- the script lies at b -/
def g_scr (G : gG) (Q : State → Array Value → List Frame → Prop) (b N : Nat) (xs : Nat → Int32) : Prop := ∀ s args below, Q s args below → va_X b N xs s s.heap ∧ b < s.heap.size ∧ b < g_b G
theorem X_sld {j v : Int32} (hX : g_scr G Q b N xs) (hd : g_lk (m_code M) pc = some (.iaload, nx, x1, x2)) (hn : nx = pc + 1) (hin : vp_in j N) (hv : xs j.toNatClampNeg = v) (kk : GX l G M (g_phL Q Z) k n nx L (.int v :: st) h F) : GX l G M (g_phL Q Z) k n pc L (.int j :: .ref b :: st) h F := by
  intro r hr p e s m args below meth c H locs A B hl hM hS
  subst hv
  have hg := g_dec B.2.2.2.2.2.2.2.2.2 hd hn
  have q := kk r hr p e s m args below meth c H locs A B hl hM hS
  by_cases hQ : Q s args below
  · obtain ⟨h1, h2, h3⟩ := hX s args below hQ
    refine va_sld B.1 B.2.1 h1 h2 (Nat.not_le.mpr h3) hS hin hg ?_
    rw [hn] at q
    exact q
  · intro T hT X
    exact ⟨_, Steps.refl _, fun h => absurd h hQ⟩
theorem X_sln (hX : g_scr G Q b N xs) (hd : g_lk (m_code M) pc = some (.arraylength, nx, x1, x2)) (hn : nx = pc + 1) (kk : GX l G M (g_phL Q Z) k n nx L (.int (Int32.ofNat N) :: st) h F) : GX l G M (g_phL Q Z) k n pc L (.ref b :: st) h F := by
  intro r hr p e s m args below meth c H locs A B hl hM hS
  have hg := g_dec B.2.2.2.2.2.2.2.2.2 hd hn
  have q := kk r hr p e s m args below meth c H locs A B hl hM hS
  by_cases hQ : Q s args below
  · obtain ⟨h1, h2, h3⟩ := hX s args below hQ
    refine va_slen B.1 B.2.1 h1 h2 (Nat.not_le.mpr h3) hS hg ?_
    rw [hn] at q
    exact q
  · intro T hT X
    exact ⟨_, Steps.refl _, fun h => absurd h hQ⟩
theorem X_lldE {a : Nat} {i : Int32} {w : Int64} (hd : g_lk (m_code M) pc = some (.laload, nx, x1, x2)) (hn : nx = pc + 1) (e : g_lld h a i = some w) (kk : GX l G M (g_phL Q Z) k n nx L (.long w :: st) h F) : GX l G M (g_phL Q Z) k n pc L (.int i :: .ref a :: st) h F := by
  have q : GX l G M (g_phL Q Z) k n pc L (.int i :: .ref a :: st) h ((g_lld h a i).bind fun v => if v = w then F else none) := by
    refine X_lld hd hn (fun v => ?_)
    by_cases hv : v = w
    · subst hv; rw [if_pos rfl]; exact kk
    · rw [if_neg hv]; exact X_none
  rw [e] at q
  simpa using q
theorem lg_cmp_self (x : Int64) : lg_cmp x x = 0 := (lg_cmp_eq x x).mpr rfl
end LAW
/-- what is asked of a call that can throw: c which exception; then the same call of the model -/
def lw_S (Inv : gH → Prop) (m q : Nat) (w : Int32 → Int64) (fc : Option (Int32 × gH)) (fr : gH → Option (Int32 × gH)) : Prop := ∃ c h1, fc = some (c, h1) ∧ ∀ n' : Nat, ∃ r h2, fr (n', h1.2) = some (r, h2) ∧ f_X8_thrown h2 m = some c ∧ g_is (n', h1.2) m 8 = true ∧ g_is h2 m 8 = true ∧ (c = 0 → g_lld h2 q 0 = some (w r)) ∧ Inv h2
/-- what is asked of a call that cannot throw -/
def lw_S0 (Inv : gH → Prop) (a m : Nat) (h : gH) (fc : Option (Int32 × gH)) (fr : gH → Option (Int32 × gH)) : Prop := g_is h a 7 = true ∧ ∃ r h1 h2, fc = some (r, h1) ∧ g_is h1 m 8 = true ∧ fr h1 = some (r, h2) ∧ Inv h2
section LAWC
variable {l : Launch} {G : gG} {Q : State → Array Value → List Frame → Prop} {Z : State → Prop} {k n : Nat} {h : gH} {b N a m q : Nat} {xs : Nat → Int32} {i x1 x2 x3 x4 x5 : Int32} {Inv : gH → Prop}
set_option maxRecDepth 100000 in
theorem law_append (hl : l.stackTraces = false) (hX : g_scr G Q b N xs) (hi1 : vp_in (i + 1) N) (hv1 : xs (i + 1).toNatClampNeg = x1) (hi2 : vp_in (i + 2) N) (hv2 : xs (i + 2).toNatClampNeg = x2) (hi3 : vp_in (i + 3) N) (hv3 : xs (i + 3).toNatClampNeg = x3) (hi4 : vp_in (i + 4) N) (hv4 : xs (i + 4).toNatClampNeg = x4) (hi5 : vp_in (i + 5) N) (hv5 : xs (i + 5).toNatClampNeg = x5) (hS : lw_S0 Inv a m h (f_X7_append h a x1 x2 x3 x4 x5) (fun h9 => f_X8_append h9 m x1 x2 x3 x4 x5)) (hk : k + 0 ≤ 601024) (hs : n + 0 ≤ 7293034) (kk : ∀ h2, Inv h2 → GX l G M_L_law (g_phL Q Z) (k + 0) (n + 0) 1417 [some (.ref b), some (.ref a), some (.ref m), some (.ref q), some (.int i), none, none, none, none] [] h2 (some ())) : GX l G M_L_law (g_phL Q Z) k n 144 [some (.ref b), some (.ref a), some (.ref m), some (.ref q), some (.int i), none, none, none, none] [] h (some ()) := by
  obtain ⟨g0, r, h1, h2, e1, g1, e2, hI⟩ := hS
  refine X_aload_n rfl rfl rfl ?_
  refine X_aload_n rfl rfl rfl ?_
  refine X_iload rfl rfl rfl ?_
  refine X_iconst (v := 1) rfl rfl (by decide) ?_
  refine X_iadd rfl rfl ?_
  refine X_sld hX rfl rfl hi1 hv1 ?_
  refine X_aload_n rfl rfl rfl ?_
  refine X_iload rfl rfl rfl ?_
  refine X_iconst (v := 2) rfl rfl (by decide) ?_
  refine X_iadd rfl rfl ?_
  refine X_sld hX rfl rfl hi2 hv2 ?_
  refine X_aload_n rfl rfl rfl ?_
  refine X_iload rfl rfl rfl ?_
  refine X_iconst (v := 3) rfl rfl (by decide) ?_
  refine X_iadd rfl rfl ?_
  refine X_sld hX rfl rfl hi3 hv3 ?_
  refine X_aload_n rfl rfl rfl ?_
  refine X_iload rfl rfl rfl ?_
  refine X_iconst (v := 4) rfl rfl (by decide) ?_
  refine X_iadd rfl rfl ?_
  refine X_sld hX rfl rfl hi4 hv4 ?_
  refine X_aload_n rfl rfl rfl ?_
  refine X_iload rfl rfl rfl ?_
  refine X_iconst (v := 5) rfl rfl (by decide) ?_
  refine X_iadd rfl rfl ?_
  refine X_sld hX rfl rfl hi5 hv5 ?_
  refine X_callV (M' := M_X7_append) (nA := 5) (b := a) (ci := 7) (As := [.int x1, .int x2, .int x3, .int x4, .int x5]) (st := []) rfl rfl (by decide +kernel) rfl rfl rfl ⟨g0, by decide⟩ (ct_X7_append e1) (g_ble (by exact hk)) (g_ble (by exact hs)) ?_
  refine X_rfl (st' := [.int r]) rfl ?_
  refine X_aload_n rfl rfl rfl ?_
  refine X_aload_n rfl rfl rfl ?_
  refine X_iload rfl rfl rfl ?_
  refine X_iconst (v := 1) rfl rfl (by decide) ?_
  refine X_iadd rfl rfl ?_
  refine X_sld hX rfl rfl hi1 hv1 ?_
  refine X_aload_n rfl rfl rfl ?_
  refine X_iload rfl rfl rfl ?_
  refine X_iconst (v := 2) rfl rfl (by decide) ?_
  refine X_iadd rfl rfl ?_
  refine X_sld hX rfl rfl hi2 hv2 ?_
  refine X_aload_n rfl rfl rfl ?_
  refine X_iload rfl rfl rfl ?_
  refine X_iconst (v := 3) rfl rfl (by decide) ?_
  refine X_iadd rfl rfl ?_
  refine X_sld hX rfl rfl hi3 hv3 ?_
  refine X_aload_n rfl rfl rfl ?_
  refine X_iload rfl rfl rfl ?_
  refine X_iconst (v := 4) rfl rfl (by decide) ?_
  refine X_iadd rfl rfl ?_
  refine X_sld hX rfl rfl hi4 hv4 ?_
  refine X_aload_n rfl rfl rfl ?_
  refine X_iload rfl rfl rfl ?_
  refine X_iconst (v := 5) rfl rfl (by decide) ?_
  refine X_iadd rfl rfl ?_
  refine X_sld hX rfl rfl hi5 hv5 ?_
  refine X_callV (M' := M_X8_append) (nA := 5) (b := m) (ci := 8) (As := [.int x1, .int x2, .int x3, .int x4, .int x5]) (st := [.int r]) rfl rfl (by decide +kernel) rfl rfl rfl ⟨g1, by decide⟩ (ct_X8_append e2) (g_ble (by exact hk)) (g_ble (by exact hs)) ?_
  refine X_rfl (st' := [.int r, .int r]) rfl ?_
  refine X_icmp_eq rfl rfl (fun _ => ?_) (fun cc => absurd rfl cc)
  exact X_sub (g_sub_s (g_sub_s (g_sub_s (g_sub_s (g_sub_s (g_sub_n (g_sub_n (g_sub_n (g_sub_n g_sub_0))))))))) (kk _ hI)
set_option maxRecDepth 100000 in
theorem law_load (hl : l.stackTraces = false) (hX : g_scr G Q b N xs) (hi1 : vp_in (i + 1) N) (hv1 : xs (i + 1).toNatClampNeg = x1) (hS : lw_S Inv m q (fun r => r.toInt64) (f_L_load h a x1 q) (fun h9 => f_X8_load h9 m x1)) (hk : k + 1 ≤ 601024) (hs : n + 7 ≤ 7293034) (kk : ∀ h2, Inv h2 → GX l G M_L_law (g_phL Q Z) (k + 1) (n + 7) 1417 [some (.ref b), some (.ref a), some (.ref m), some (.ref q), some (.int i), none, none, none, none] [] h2 (some ())) : GX l G M_L_law (g_phL Q Z) k n 217 [some (.ref b), some (.ref a), some (.ref m), some (.ref q), some (.int i), none, none, none, none] [] h (some ()) := by
  unfold lw_S at hS
  obtain ⟨c, h1, e1, hS⟩ := hS
  refine X_aload_n rfl rfl rfl ?_
  refine X_aload_n rfl rfl rfl ?_
  refine X_iload rfl rfl rfl ?_
  refine X_iconst (v := 1) rfl rfl (by decide) ?_
  refine X_iadd rfl rfl ?_
  refine X_sld hX rfl rfl hi1 hv1 ?_
  refine X_aload_n rfl rfl rfl ?_
  refine X_callH (M' := M_L_load) (nA := 3) (As := [.ref a, .int x1, .ref q]) (st := []) rfl rfl (by decide +kernel) rfl rfl rfl (ct_L_load hl e1) hk hs (fun n' => ?_)
  obtain ⟨r, h2, e2, e3, g1, g2, e4, hI⟩ := hS n'
  refine X_rfl (st' := [.int c]) rfl ?_
  refine X_istore rfl rfl rfl rfl ?_
  refine X_aload_n rfl rfl rfl ?_
  refine X_aload_n rfl rfl rfl ?_
  refine X_iload rfl rfl rfl ?_
  refine X_iconst (v := 1) rfl rfl (by decide) ?_
  refine X_iadd rfl rfl ?_
  refine X_sld hX rfl rfl hi1 hv1 ?_
  refine X_callV (M' := M_X8_load) (nA := 1) (b := m) (ci := 8) (As := [.int x1]) (st := []) rfl rfl (by decide +kernel) rfl rfl rfl ⟨g1, by decide⟩ (ct_X8_load e2) (g_ble (by exact hk)) (g_ble (by exact hs)) ?_
  refine X_rfl (st' := [.int r]) rfl ?_
  refine X_istore rfl rfl rfl rfl ?_
  refine X_aload_n rfl rfl rfl ?_
  refine X_callV (M' := M_X8_thrown) (nA := 0) (b := m) (ci := 8) (As := []) (st := []) rfl rfl (by decide +kernel) rfl rfl rfl ⟨g2, by decide⟩ (ct_X8_thrown e3) (g_ble (by exact hk)) (g_ble (by exact hs)) ?_
  refine X_rfl (st' := [.int c]) rfl ?_
  refine X_iload rfl rfl rfl ?_
  refine X_icmp_eq rfl rfl (fun _ => ?_) (fun cc => absurd rfl cc)
  refine X_iload rfl rfl rfl ?_
  refine X_if_ne rfl rfl (fun hc => ?_) (fun hc => ?_)
  · refine X_goto rfl rfl ?_
    exact X_sub (g_sub_s (g_sub_s (g_sub_s (g_sub_s (g_sub_s (g_sub_n (g_sub_n (g_sub_n (g_sub_n g_sub_0))))))))) (kk _ hI)
  · refine X_aload_n rfl rfl rfl ?_
    refine X_iconst (v := 0) rfl rfl (by decide) ?_
    refine X_lldE rfl rfl (e4 (by simpa using hc)) ?_
    refine X_iload rfl rfl rfl ?_
    refine X_i2l rfl rfl ?_
    refine X_lcmp rfl rfl ?_
    refine X_rfl (st' := [.int 0]) (by simp [lg_cmp_self]) ?_
    refine X_if_eq rfl rfl (fun _ => ?_) (fun cc => absurd rfl cc)
    refine X_goto rfl rfl ?_
    exact X_sub (g_sub_s (g_sub_s (g_sub_s (g_sub_s (g_sub_s (g_sub_n (g_sub_n (g_sub_n (g_sub_n g_sub_0))))))))) (kk _ hI)
set_option maxRecDepth 100000 in
theorem law_errorOffset (hl : l.stackTraces = false) (hX : g_scr G Q b N xs) (hS : lw_S0 Inv a m h ((f_X7_errorOffset h a ).map (fun r => (r, h))) (fun h9 => f_X8_errorOffset h9 m )) (hk : k + 0 ≤ 601024) (hs : n + 0 ≤ 7293034) (kk : ∀ h2, Inv h2 → GX l G M_L_law (g_phL Q Z) (k + 0) (n + 0) 1417 [some (.ref b), some (.ref a), some (.ref m), some (.ref q), some (.int i), none, none, none, none] [] h2 (some ())) : GX l G M_L_law (g_phL Q Z) k n 273 [some (.ref b), some (.ref a), some (.ref m), some (.ref q), some (.int i), none, none, none, none] [] h (some ()) := by
  obtain ⟨g0, r, h1, h2, e1, g1, e2, hI⟩ := hS
  obtain ⟨_, e1, e9⟩ := Option.map_eq_some_iff.mp e1
  cases e9
  refine X_aload_n rfl rfl rfl ?_
  refine X_callV (M' := M_X7_errorOffset) (nA := 0) (b := a) (ci := 7) (As := []) (st := []) rfl rfl (by decide +kernel) rfl rfl rfl ⟨g0, by decide⟩ (ct_X7_errorOffset e1) (g_ble (by exact hk)) (g_ble (by exact hs)) ?_
  refine X_rfl (st' := [.int r]) rfl ?_
  refine X_aload_n rfl rfl rfl ?_
  refine X_callV (M' := M_X8_errorOffset) (nA := 0) (b := m) (ci := 8) (As := []) (st := [.int r]) rfl rfl (by decide +kernel) rfl rfl rfl ⟨g1, by decide⟩ (ct_X8_errorOffset e2) (g_ble (by exact hk)) (g_ble (by exact hs)) ?_
  refine X_rfl (st' := [.int r, .int r]) rfl ?_
  refine X_icmp_eq rfl rfl (fun _ => ?_) (fun cc => absurd rfl cc)
  exact X_sub (g_sub_s (g_sub_s (g_sub_s (g_sub_s (g_sub_s (g_sub_n (g_sub_n (g_sub_n (g_sub_n g_sub_0))))))))) (kk _ hI)
set_option maxRecDepth 100000 in
theorem law_state (hl : l.stackTraces = false) (hX : g_scr G Q b N xs) (hi1 : vp_in (i + 1) N) (hv1 : xs (i + 1).toNatClampNeg = x1) (hS : lw_S Inv m q (fun r => r.toInt64) (f_L_state h a x1 q) (fun h9 => f_X8_state h9 m x1)) (hk : k + 1 ≤ 601024) (hs : n + 6 ≤ 7293034) (kk : ∀ h2, Inv h2 → GX l G M_L_law (g_phL Q Z) (k + 1) (n + 6) 1417 [some (.ref b), some (.ref a), some (.ref m), some (.ref q), some (.int i), none, none, none, none] [] h2 (some ())) : GX l G M_L_law (g_phL Q Z) k n 286 [some (.ref b), some (.ref a), some (.ref m), some (.ref q), some (.int i), none, none, none, none] [] h (some ()) := by
  unfold lw_S at hS
  obtain ⟨c, h1, e1, hS⟩ := hS
  refine X_aload_n rfl rfl rfl ?_
  refine X_aload_n rfl rfl rfl ?_
  refine X_iload rfl rfl rfl ?_
  refine X_iconst (v := 1) rfl rfl (by decide) ?_
  refine X_iadd rfl rfl ?_
  refine X_sld hX rfl rfl hi1 hv1 ?_
  refine X_aload_n rfl rfl rfl ?_
  refine X_callH (M' := M_L_state) (nA := 3) (As := [.ref a, .int x1, .ref q]) (st := []) rfl rfl (by decide +kernel) rfl rfl rfl (ct_L_state hl e1) hk hs (fun n' => ?_)
  obtain ⟨r, h2, e2, e3, g1, g2, e4, hI⟩ := hS n'
  refine X_rfl (st' := [.int c]) rfl ?_
  refine X_istore rfl rfl rfl rfl ?_
  refine X_aload_n rfl rfl rfl ?_
  refine X_aload_n rfl rfl rfl ?_
  refine X_iload rfl rfl rfl ?_
  refine X_iconst (v := 1) rfl rfl (by decide) ?_
  refine X_iadd rfl rfl ?_
  refine X_sld hX rfl rfl hi1 hv1 ?_
  refine X_callV (M' := M_X8_state) (nA := 1) (b := m) (ci := 8) (As := [.int x1]) (st := []) rfl rfl (by decide +kernel) rfl rfl rfl ⟨g1, by decide⟩ (ct_X8_state e2) (g_ble (by exact hk)) (g_ble (by exact hs)) ?_
  refine X_rfl (st' := [.int r]) rfl ?_
  refine X_istore rfl rfl rfl rfl ?_
  refine X_aload_n rfl rfl rfl ?_
  refine X_callV (M' := M_X8_thrown) (nA := 0) (b := m) (ci := 8) (As := []) (st := []) rfl rfl (by decide +kernel) rfl rfl rfl ⟨g2, by decide⟩ (ct_X8_thrown e3) (g_ble (by exact hk)) (g_ble (by exact hs)) ?_
  refine X_rfl (st' := [.int c]) rfl ?_
  refine X_iload rfl rfl rfl ?_
  refine X_icmp_eq rfl rfl (fun _ => ?_) (fun cc => absurd rfl cc)
  refine X_iload rfl rfl rfl ?_
  refine X_if_ne rfl rfl (fun hc => ?_) (fun hc => ?_)
  · refine X_goto rfl rfl ?_
    exact X_sub (g_sub_s (g_sub_s (g_sub_s (g_sub_s (g_sub_s (g_sub_n (g_sub_n (g_sub_n (g_sub_n g_sub_0))))))))) (kk _ hI)
  · refine X_aload_n rfl rfl rfl ?_
    refine X_iconst (v := 0) rfl rfl (by decide) ?_
    refine X_lldE rfl rfl (e4 (by simpa using hc)) ?_
    refine X_iload rfl rfl rfl ?_
    refine X_i2l rfl rfl ?_
    refine X_lcmp rfl rfl ?_
    refine X_rfl (st' := [.int 0]) (by simp [lg_cmp_self]) ?_
    refine X_if_eq rfl rfl (fun _ => ?_) (fun cc => absurd rfl cc)
    refine X_goto rfl rfl ?_
    exact X_sub (g_sub_s (g_sub_s (g_sub_s (g_sub_s (g_sub_s (g_sub_n (g_sub_n (g_sub_n (g_sub_n g_sub_0))))))))) (kk _ hI)
set_option maxRecDepth 100000 in
theorem law_channel (hl : l.stackTraces = false) (hX : g_scr G Q b N xs) (hi1 : vp_in (i + 1) N) (hv1 : xs (i + 1).toNatClampNeg = x1) (hi2 : vp_in (i + 2) N) (hv2 : xs (i + 2).toNatClampNeg = x2) (hS : lw_S Inv m q (fun r => r.toInt64) (f_L_channel h a x1 x2 q) (fun h9 => f_X8_channel h9 m x1 x2)) (hk : k + 1 ≤ 601024) (hs : n + 6 ≤ 7293034) (kk : ∀ h2, Inv h2 → GX l G M_L_law (g_phL Q Z) (k + 1) (n + 6) 1417 [some (.ref b), some (.ref a), some (.ref m), some (.ref q), some (.int i), none, none, none, none] [] h2 (some ())) : GX l G M_L_law (g_phL Q Z) k n 342 [some (.ref b), some (.ref a), some (.ref m), some (.ref q), some (.int i), none, none, none, none] [] h (some ()) := by
  unfold lw_S at hS
  obtain ⟨c, h1, e1, hS⟩ := hS
  refine X_aload_n rfl rfl rfl ?_
  refine X_aload_n rfl rfl rfl ?_
  refine X_iload rfl rfl rfl ?_
  refine X_iconst (v := 1) rfl rfl (by decide) ?_
  refine X_iadd rfl rfl ?_
  refine X_sld hX rfl rfl hi1 hv1 ?_
  refine X_aload_n rfl rfl rfl ?_
  refine X_iload rfl rfl rfl ?_
  refine X_iconst (v := 2) rfl rfl (by decide) ?_
  refine X_iadd rfl rfl ?_
  refine X_sld hX rfl rfl hi2 hv2 ?_
  refine X_aload_n rfl rfl rfl ?_
  refine X_callH (M' := M_L_channel) (nA := 4) (As := [.ref a, .int x1, .int x2, .ref q]) (st := []) rfl rfl (by decide +kernel) rfl rfl rfl (ct_L_channel hl e1) hk hs (fun n' => ?_)
  obtain ⟨r, h2, e2, e3, g1, g2, e4, hI⟩ := hS n'
  refine X_rfl (st' := [.int c]) rfl ?_
  refine X_istore rfl rfl rfl rfl ?_
  refine X_aload_n rfl rfl rfl ?_
  refine X_aload_n rfl rfl rfl ?_
  refine X_iload rfl rfl rfl ?_
  refine X_iconst (v := 1) rfl rfl (by decide) ?_
  refine X_iadd rfl rfl ?_
  refine X_sld hX rfl rfl hi1 hv1 ?_
  refine X_aload_n rfl rfl rfl ?_
  refine X_iload rfl rfl rfl ?_
  refine X_iconst (v := 2) rfl rfl (by decide) ?_
  refine X_iadd rfl rfl ?_
  refine X_sld hX rfl rfl hi2 hv2 ?_
  refine X_callV (M' := M_X8_channel) (nA := 2) (b := m) (ci := 8) (As := [.int x1, .int x2]) (st := []) rfl rfl (by decide +kernel) rfl rfl rfl ⟨g1, by decide⟩ (ct_X8_channel e2) (g_ble (by exact hk)) (g_ble (by exact hs)) ?_
  refine X_rfl (st' := [.int r]) rfl ?_
  refine X_istore rfl rfl rfl rfl ?_
  refine X_aload_n rfl rfl rfl ?_
  refine X_callV (M' := M_X8_thrown) (nA := 0) (b := m) (ci := 8) (As := []) (st := []) rfl rfl (by decide +kernel) rfl rfl rfl ⟨g2, by decide⟩ (ct_X8_thrown e3) (g_ble (by exact hk)) (g_ble (by exact hs)) ?_
  refine X_rfl (st' := [.int c]) rfl ?_
  refine X_iload rfl rfl rfl ?_
  refine X_icmp_eq rfl rfl (fun _ => ?_) (fun cc => absurd rfl cc)
  refine X_iload rfl rfl rfl ?_
  refine X_if_ne rfl rfl (fun hc => ?_) (fun hc => ?_)
  · refine X_goto rfl rfl ?_
    exact X_sub (g_sub_s (g_sub_s (g_sub_s (g_sub_s (g_sub_s (g_sub_n (g_sub_n (g_sub_n (g_sub_n g_sub_0))))))))) (kk _ hI)
  · refine X_aload_n rfl rfl rfl ?_
    refine X_iconst (v := 0) rfl rfl (by decide) ?_
    refine X_lldE rfl rfl (e4 (by simpa using hc)) ?_
    refine X_iload rfl rfl rfl ?_
    refine X_i2l rfl rfl ?_
    refine X_lcmp rfl rfl ?_
    refine X_rfl (st' := [.int 0]) (by simp [lg_cmp_self]) ?_
    refine X_if_eq rfl rfl (fun _ => ?_) (fun cc => absurd rfl cc)
    refine X_goto rfl rfl ?_
    exact X_sub (g_sub_s (g_sub_s (g_sub_s (g_sub_s (g_sub_s (g_sub_n (g_sub_n (g_sub_n (g_sub_n g_sub_0))))))))) (kk _ hI)
set_option maxRecDepth 100000 in
theorem law_message (hl : l.stackTraces = false) (hX : g_scr G Q b N xs) (hi1 : vp_in (i + 1) N) (hv1 : xs (i + 1).toNatClampNeg = x1) (hi2 : vp_in (i + 2) N) (hv2 : xs (i + 2).toNatClampNeg = x2) (hS : lw_S Inv m q (fun r => r.toInt64) (f_L_message h a x1 x2 q) (fun h9 => f_X8_message h9 m x1 x2)) (hk : k + 1 ≤ 601024) (hs : n + 6 ≤ 7293034) (kk : ∀ h2, Inv h2 → GX l G M_L_law (g_phL Q Z) (k + 1) (n + 6) 1417 [some (.ref b), some (.ref a), some (.ref m), some (.ref q), some (.int i), none, none, none, none] [] h2 (some ())) : GX l G M_L_law (g_phL Q Z) k n 410 [some (.ref b), some (.ref a), some (.ref m), some (.ref q), some (.int i), none, none, none, none] [] h (some ()) := by
  unfold lw_S at hS
  obtain ⟨c, h1, e1, hS⟩ := hS
  refine X_aload_n rfl rfl rfl ?_
  refine X_aload_n rfl rfl rfl ?_
  refine X_iload rfl rfl rfl ?_
  refine X_iconst (v := 1) rfl rfl (by decide) ?_
  refine X_iadd rfl rfl ?_
  refine X_sld hX rfl rfl hi1 hv1 ?_
  refine X_aload_n rfl rfl rfl ?_
  refine X_iload rfl rfl rfl ?_
  refine X_iconst (v := 2) rfl rfl (by decide) ?_
  refine X_iadd rfl rfl ?_
  refine X_sld hX rfl rfl hi2 hv2 ?_
  refine X_aload_n rfl rfl rfl ?_
  refine X_callH (M' := M_L_message) (nA := 4) (As := [.ref a, .int x1, .int x2, .ref q]) (st := []) rfl rfl (by decide +kernel) rfl rfl rfl (ct_L_message hl e1) hk hs (fun n' => ?_)
  obtain ⟨r, h2, e2, e3, g1, g2, e4, hI⟩ := hS n'
  refine X_rfl (st' := [.int c]) rfl ?_
  refine X_istore rfl rfl rfl rfl ?_
  refine X_aload_n rfl rfl rfl ?_
  refine X_aload_n rfl rfl rfl ?_
  refine X_iload rfl rfl rfl ?_
  refine X_iconst (v := 1) rfl rfl (by decide) ?_
  refine X_iadd rfl rfl ?_
  refine X_sld hX rfl rfl hi1 hv1 ?_
  refine X_aload_n rfl rfl rfl ?_
  refine X_iload rfl rfl rfl ?_
  refine X_iconst (v := 2) rfl rfl (by decide) ?_
  refine X_iadd rfl rfl ?_
  refine X_sld hX rfl rfl hi2 hv2 ?_
  refine X_callV (M' := M_X8_message) (nA := 2) (b := m) (ci := 8) (As := [.int x1, .int x2]) (st := []) rfl rfl (by decide +kernel) rfl rfl rfl ⟨g1, by decide⟩ (ct_X8_message e2) (g_ble (by exact hk)) (g_ble (by exact hs)) ?_
  refine X_rfl (st' := [.int r]) rfl ?_
  refine X_istore rfl rfl rfl rfl ?_
  refine X_aload_n rfl rfl rfl ?_
  refine X_callV (M' := M_X8_thrown) (nA := 0) (b := m) (ci := 8) (As := []) (st := []) rfl rfl (by decide +kernel) rfl rfl rfl ⟨g2, by decide⟩ (ct_X8_thrown e3) (g_ble (by exact hk)) (g_ble (by exact hs)) ?_
  refine X_rfl (st' := [.int c]) rfl ?_
  refine X_iload rfl rfl rfl ?_
  refine X_icmp_eq rfl rfl (fun _ => ?_) (fun cc => absurd rfl cc)
  refine X_iload rfl rfl rfl ?_
  refine X_if_ne rfl rfl (fun hc => ?_) (fun hc => ?_)
  · refine X_goto rfl rfl ?_
    exact X_sub (g_sub_s (g_sub_s (g_sub_s (g_sub_s (g_sub_s (g_sub_n (g_sub_n (g_sub_n (g_sub_n g_sub_0))))))))) (kk _ hI)
  · refine X_aload_n rfl rfl rfl ?_
    refine X_iconst (v := 0) rfl rfl (by decide) ?_
    refine X_lldE rfl rfl (e4 (by simpa using hc)) ?_
    refine X_iload rfl rfl rfl ?_
    refine X_i2l rfl rfl ?_
    refine X_lcmp rfl rfl ?_
    refine X_rfl (st' := [.int 0]) (by simp [lg_cmp_self]) ?_
    refine X_if_eq rfl rfl (fun _ => ?_) (fun cc => absurd rfl cc)
    refine X_goto rfl rfl ?_
    exact X_sub (g_sub_s (g_sub_s (g_sub_s (g_sub_s (g_sub_s (g_sub_n (g_sub_n (g_sub_n (g_sub_n g_sub_0))))))))) (kk _ hI)
set_option maxRecDepth 100000 in
theorem law_letter0 (hl : l.stackTraces = false) (hX : g_scr G Q b N xs) (hi1 : vp_in (i + 1) N) (hv1 : xs (i + 1).toNatClampNeg = x1) (hi2 : vp_in (i + 2) N) (hv2 : xs (i + 2).toNatClampNeg = x2) (hi3 : vp_in (i + 3) N) (hv3 : xs (i + 3).toNatClampNeg = x3) (hz : x3 = 0) (hS : lw_S Inv m q (fun r => r.toInt64) (f_L_letter h a x1 x2 0 q) (fun h9 => f_X8_letter h9 m x1 x2 0)) (hk : k + 1 ≤ 601024) (hs : n + 6 ≤ 7293034) (kk : ∀ h2, Inv h2 → GX l G M_L_law (g_phL Q Z) (k + 1) (n + 6) 1417 [some (.ref b), some (.ref a), some (.ref m), some (.ref q), some (.int i), none, none, none, none] [] h2 (some ())) : GX l G M_L_law (g_phL Q Z) k n 478 [some (.ref b), some (.ref a), some (.ref m), some (.ref q), some (.int i), none, none, none, none] [] h (some ()) := by
  unfold lw_S at hS
  obtain ⟨c, h1, e1, hS⟩ := hS
  refine X_aload_n rfl rfl rfl ?_
  refine X_aload_n rfl rfl rfl ?_
  refine X_iload rfl rfl rfl ?_
  refine X_iconst (v := 1) rfl rfl (by decide) ?_
  refine X_iadd rfl rfl ?_
  refine X_sld hX rfl rfl hi1 hv1 ?_
  refine X_aload_n rfl rfl rfl ?_
  refine X_iload rfl rfl rfl ?_
  refine X_iconst (v := 2) rfl rfl (by decide) ?_
  refine X_iadd rfl rfl ?_
  refine X_sld hX rfl rfl hi2 hv2 ?_
  refine X_aload_n rfl rfl rfl ?_
  refine X_iload rfl rfl rfl ?_
  refine X_iconst (v := 3) rfl rfl (by decide) ?_
  refine X_iadd rfl rfl ?_
  refine X_sld hX rfl rfl hi3 hv3 ?_
  refine X_if_eq rfl rfl (fun _ => ?_) (fun cc => absurd hz cc)
  refine X_iconst (v := 0) rfl rfl (by decide) ?_
  refine X_aload_n rfl rfl rfl ?_
  refine X_callH (M' := M_L_letter) (nA := 5) (As := [.ref a, .int x1, .int x2, .int 0, .ref q]) (st := []) rfl rfl (by decide +kernel) rfl rfl rfl (ct_L_letter hl e1) hk hs (fun n' => ?_)
  obtain ⟨r, h2, e2, e3, g1, g2, e4, hI⟩ := hS n'
  refine X_rfl (st' := [.int c]) rfl ?_
  refine X_istore rfl rfl rfl rfl ?_
  refine X_aload_n rfl rfl rfl ?_
  refine X_aload_n rfl rfl rfl ?_
  refine X_iload rfl rfl rfl ?_
  refine X_iconst (v := 1) rfl rfl (by decide) ?_
  refine X_iadd rfl rfl ?_
  refine X_sld hX rfl rfl hi1 hv1 ?_
  refine X_aload_n rfl rfl rfl ?_
  refine X_iload rfl rfl rfl ?_
  refine X_iconst (v := 2) rfl rfl (by decide) ?_
  refine X_iadd rfl rfl ?_
  refine X_sld hX rfl rfl hi2 hv2 ?_
  refine X_aload_n rfl rfl rfl ?_
  refine X_iload rfl rfl rfl ?_
  refine X_iconst (v := 3) rfl rfl (by decide) ?_
  refine X_iadd rfl rfl ?_
  refine X_sld hX rfl rfl hi3 hv3 ?_
  refine X_if_eq rfl rfl (fun _ => ?_) (fun cc => absurd hz cc)
  refine X_iconst (v := 0) rfl rfl (by decide) ?_
  refine X_callV (M' := M_X8_letter) (nA := 3) (b := m) (ci := 8) (As := [.int x1, .int x2, .int 0]) (st := []) rfl rfl (by decide +kernel) rfl rfl rfl ⟨g1, by decide⟩ (ct_X8_letter e2) (g_ble (by exact hk)) (g_ble (by exact hs)) ?_
  refine X_rfl (st' := [.int r]) rfl ?_
  refine X_istore rfl rfl rfl rfl ?_
  refine X_aload_n rfl rfl rfl ?_
  refine X_callV (M' := M_X8_thrown) (nA := 0) (b := m) (ci := 8) (As := []) (st := []) rfl rfl (by decide +kernel) rfl rfl rfl ⟨g2, by decide⟩ (ct_X8_thrown e3) (g_ble (by exact hk)) (g_ble (by exact hs)) ?_
  refine X_rfl (st' := [.int c]) rfl ?_
  refine X_iload rfl rfl rfl ?_
  refine X_icmp_eq rfl rfl (fun _ => ?_) (fun cc => absurd rfl cc)
  refine X_iload rfl rfl rfl ?_
  refine X_if_ne rfl rfl (fun hc => ?_) (fun hc => ?_)
  · refine X_goto rfl rfl ?_
    exact X_sub (g_sub_s (g_sub_s (g_sub_s (g_sub_s (g_sub_s (g_sub_n (g_sub_n (g_sub_n (g_sub_n g_sub_0))))))))) (kk _ hI)
  · refine X_aload_n rfl rfl rfl ?_
    refine X_iconst (v := 0) rfl rfl (by decide) ?_
    refine X_lldE rfl rfl (e4 (by simpa using hc)) ?_
    refine X_iload rfl rfl rfl ?_
    refine X_i2l rfl rfl ?_
    refine X_lcmp rfl rfl ?_
    refine X_rfl (st' := [.int 0]) (by simp [lg_cmp_self]) ?_
    refine X_if_eq rfl rfl (fun _ => ?_) (fun cc => absurd rfl cc)
    refine X_goto rfl rfl ?_
    exact X_sub (g_sub_s (g_sub_s (g_sub_s (g_sub_s (g_sub_s (g_sub_n (g_sub_n (g_sub_n (g_sub_n g_sub_0))))))))) (kk _ hI)
set_option maxRecDepth 100000 in
theorem law_letter1 (hl : l.stackTraces = false) (hX : g_scr G Q b N xs) (hi1 : vp_in (i + 1) N) (hv1 : xs (i + 1).toNatClampNeg = x1) (hi2 : vp_in (i + 2) N) (hv2 : xs (i + 2).toNatClampNeg = x2) (hi3 : vp_in (i + 3) N) (hv3 : xs (i + 3).toNatClampNeg = x3) (hz : ¬ x3 = 0) (hS : lw_S Inv m q (fun r => r.toInt64) (f_L_letter h a x1 x2 1 q) (fun h9 => f_X8_letter h9 m x1 x2 1)) (hk : k + 1 ≤ 601024) (hs : n + 6 ≤ 7293034) (kk : ∀ h2, Inv h2 → GX l G M_L_law (g_phL Q Z) (k + 1) (n + 6) 1417 [some (.ref b), some (.ref a), some (.ref m), some (.ref q), some (.int i), none, none, none, none] [] h2 (some ())) : GX l G M_L_law (g_phL Q Z) k n 478 [some (.ref b), some (.ref a), some (.ref m), some (.ref q), some (.int i), none, none, none, none] [] h (some ()) := by
  unfold lw_S at hS
  obtain ⟨c, h1, e1, hS⟩ := hS
  refine X_aload_n rfl rfl rfl ?_
  refine X_aload_n rfl rfl rfl ?_
  refine X_iload rfl rfl rfl ?_
  refine X_iconst (v := 1) rfl rfl (by decide) ?_
  refine X_iadd rfl rfl ?_
  refine X_sld hX rfl rfl hi1 hv1 ?_
  refine X_aload_n rfl rfl rfl ?_
  refine X_iload rfl rfl rfl ?_
  refine X_iconst (v := 2) rfl rfl (by decide) ?_
  refine X_iadd rfl rfl ?_
  refine X_sld hX rfl rfl hi2 hv2 ?_
  refine X_aload_n rfl rfl rfl ?_
  refine X_iload rfl rfl rfl ?_
  refine X_iconst (v := 3) rfl rfl (by decide) ?_
  refine X_iadd rfl rfl ?_
  refine X_sld hX rfl rfl hi3 hv3 ?_
  refine X_if_eq rfl rfl (fun cc => absurd cc hz) (fun _ => ?_)
  refine X_iconst (v := 1) rfl rfl (by decide) ?_
  refine X_goto rfl rfl ?_
  refine X_aload_n rfl rfl rfl ?_
  refine X_callH (M' := M_L_letter) (nA := 5) (As := [.ref a, .int x1, .int x2, .int 1, .ref q]) (st := []) rfl rfl (by decide +kernel) rfl rfl rfl (ct_L_letter hl e1) hk hs (fun n' => ?_)
  obtain ⟨r, h2, e2, e3, g1, g2, e4, hI⟩ := hS n'
  refine X_rfl (st' := [.int c]) rfl ?_
  refine X_istore rfl rfl rfl rfl ?_
  refine X_aload_n rfl rfl rfl ?_
  refine X_aload_n rfl rfl rfl ?_
  refine X_iload rfl rfl rfl ?_
  refine X_iconst (v := 1) rfl rfl (by decide) ?_
  refine X_iadd rfl rfl ?_
  refine X_sld hX rfl rfl hi1 hv1 ?_
  refine X_aload_n rfl rfl rfl ?_
  refine X_iload rfl rfl rfl ?_
  refine X_iconst (v := 2) rfl rfl (by decide) ?_
  refine X_iadd rfl rfl ?_
  refine X_sld hX rfl rfl hi2 hv2 ?_
  refine X_aload_n rfl rfl rfl ?_
  refine X_iload rfl rfl rfl ?_
  refine X_iconst (v := 3) rfl rfl (by decide) ?_
  refine X_iadd rfl rfl ?_
  refine X_sld hX rfl rfl hi3 hv3 ?_
  refine X_if_eq rfl rfl (fun cc => absurd cc hz) (fun _ => ?_)
  refine X_iconst (v := 1) rfl rfl (by decide) ?_
  refine X_goto rfl rfl ?_
  refine X_callV (M' := M_X8_letter) (nA := 3) (b := m) (ci := 8) (As := [.int x1, .int x2, .int 1]) (st := []) rfl rfl (by decide +kernel) rfl rfl rfl ⟨g1, by decide⟩ (ct_X8_letter e2) (g_ble (by exact hk)) (g_ble (by exact hs)) ?_
  refine X_rfl (st' := [.int r]) rfl ?_
  refine X_istore rfl rfl rfl rfl ?_
  refine X_aload_n rfl rfl rfl ?_
  refine X_callV (M' := M_X8_thrown) (nA := 0) (b := m) (ci := 8) (As := []) (st := []) rfl rfl (by decide +kernel) rfl rfl rfl ⟨g2, by decide⟩ (ct_X8_thrown e3) (g_ble (by exact hk)) (g_ble (by exact hs)) ?_
  refine X_rfl (st' := [.int c]) rfl ?_
  refine X_iload rfl rfl rfl ?_
  refine X_icmp_eq rfl rfl (fun _ => ?_) (fun cc => absurd rfl cc)
  refine X_iload rfl rfl rfl ?_
  refine X_if_ne rfl rfl (fun hc => ?_) (fun hc => ?_)
  · refine X_goto rfl rfl ?_
    exact X_sub (g_sub_s (g_sub_s (g_sub_s (g_sub_s (g_sub_s (g_sub_n (g_sub_n (g_sub_n (g_sub_n g_sub_0))))))))) (kk _ hI)
  · refine X_aload_n rfl rfl rfl ?_
    refine X_iconst (v := 0) rfl rfl (by decide) ?_
    refine X_lldE rfl rfl (e4 (by simpa using hc)) ?_
    refine X_iload rfl rfl rfl ?_
    refine X_i2l rfl rfl ?_
    refine X_lcmp rfl rfl ?_
    refine X_rfl (st' := [.int 0]) (by simp [lg_cmp_self]) ?_
    refine X_if_eq rfl rfl (fun _ => ?_) (fun cc => absurd rfl cc)
    refine X_goto rfl rfl ?_
    exact X_sub (g_sub_s (g_sub_s (g_sub_s (g_sub_s (g_sub_s (g_sub_n (g_sub_n (g_sub_n (g_sub_n g_sub_0))))))))) (kk _ hI)
set_option maxRecDepth 100000 in
theorem law_why (hl : l.stackTraces = false) (hX : g_scr G Q b N xs) (hi1 : vp_in (i + 1) N) (hv1 : xs (i + 1).toNatClampNeg = x1) (hi2 : vp_in (i + 2) N) (hv2 : xs (i + 2).toNatClampNeg = x2) (hS : lw_S Inv m q (fun r => r.toInt64) (f_L_why h a x1 x2 q) (fun h9 => f_X8_why h9 m x1 x2)) (hk : k + 1 ≤ 601024) (hs : n + 6 ≤ 7293034) (kk : ∀ h2, Inv h2 → GX l G M_L_law (g_phL Q Z) (k + 1) (n + 6) 1417 [some (.ref b), some (.ref a), some (.ref m), some (.ref q), some (.int i), none, none, none, none] [] h2 (some ())) : GX l G M_L_law (g_phL Q Z) k n 574 [some (.ref b), some (.ref a), some (.ref m), some (.ref q), some (.int i), none, none, none, none] [] h (some ()) := by
  unfold lw_S at hS
  obtain ⟨c, h1, e1, hS⟩ := hS
  refine X_aload_n rfl rfl rfl ?_
  refine X_aload_n rfl rfl rfl ?_
  refine X_iload rfl rfl rfl ?_
  refine X_iconst (v := 1) rfl rfl (by decide) ?_
  refine X_iadd rfl rfl ?_
  refine X_sld hX rfl rfl hi1 hv1 ?_
  refine X_aload_n rfl rfl rfl ?_
  refine X_iload rfl rfl rfl ?_
  refine X_iconst (v := 2) rfl rfl (by decide) ?_
  refine X_iadd rfl rfl ?_
  refine X_sld hX rfl rfl hi2 hv2 ?_
  refine X_aload_n rfl rfl rfl ?_
  refine X_callH (M' := M_L_why) (nA := 4) (As := [.ref a, .int x1, .int x2, .ref q]) (st := []) rfl rfl (by decide +kernel) rfl rfl rfl (ct_L_why hl e1) hk hs (fun n' => ?_)
  obtain ⟨r, h2, e2, e3, g1, g2, e4, hI⟩ := hS n'
  refine X_rfl (st' := [.int c]) rfl ?_
  refine X_istore rfl rfl rfl rfl ?_
  refine X_aload_n rfl rfl rfl ?_
  refine X_aload_n rfl rfl rfl ?_
  refine X_iload rfl rfl rfl ?_
  refine X_iconst (v := 1) rfl rfl (by decide) ?_
  refine X_iadd rfl rfl ?_
  refine X_sld hX rfl rfl hi1 hv1 ?_
  refine X_aload_n rfl rfl rfl ?_
  refine X_iload rfl rfl rfl ?_
  refine X_iconst (v := 2) rfl rfl (by decide) ?_
  refine X_iadd rfl rfl ?_
  refine X_sld hX rfl rfl hi2 hv2 ?_
  refine X_callV (M' := M_X8_why) (nA := 2) (b := m) (ci := 8) (As := [.int x1, .int x2]) (st := []) rfl rfl (by decide +kernel) rfl rfl rfl ⟨g1, by decide⟩ (ct_X8_why e2) (g_ble (by exact hk)) (g_ble (by exact hs)) ?_
  refine X_rfl (st' := [.int r]) rfl ?_
  refine X_istore rfl rfl rfl rfl ?_
  refine X_aload_n rfl rfl rfl ?_
  refine X_callV (M' := M_X8_thrown) (nA := 0) (b := m) (ci := 8) (As := []) (st := []) rfl rfl (by decide +kernel) rfl rfl rfl ⟨g2, by decide⟩ (ct_X8_thrown e3) (g_ble (by exact hk)) (g_ble (by exact hs)) ?_
  refine X_rfl (st' := [.int c]) rfl ?_
  refine X_iload rfl rfl rfl ?_
  refine X_icmp_eq rfl rfl (fun _ => ?_) (fun cc => absurd rfl cc)
  refine X_iload rfl rfl rfl ?_
  refine X_if_ne rfl rfl (fun hc => ?_) (fun hc => ?_)
  · refine X_goto rfl rfl ?_
    exact X_sub (g_sub_s (g_sub_s (g_sub_s (g_sub_s (g_sub_s (g_sub_n (g_sub_n (g_sub_n (g_sub_n g_sub_0))))))))) (kk _ hI)
  · refine X_aload_n rfl rfl rfl ?_
    refine X_iconst (v := 0) rfl rfl (by decide) ?_
    refine X_lldE rfl rfl (e4 (by simpa using hc)) ?_
    refine X_iload rfl rfl rfl ?_
    refine X_i2l rfl rfl ?_
    refine X_lcmp rfl rfl ?_
    refine X_rfl (st' := [.int 0]) (by simp [lg_cmp_self]) ?_
    refine X_if_eq rfl rfl (fun _ => ?_) (fun cc => absurd rfl cc)
    refine X_goto rfl rfl ?_
    exact X_sub (g_sub_s (g_sub_s (g_sub_s (g_sub_s (g_sub_s (g_sub_n (g_sub_n (g_sub_n (g_sub_n g_sub_0))))))))) (kk _ hI)
set_option maxRecDepth 100000 in
theorem law_mist (hl : l.stackTraces = false) (hX : g_scr G Q b N xs) (hi1 : vp_in (i + 1) N) (hv1 : xs (i + 1).toNatClampNeg = x1) (hS : lw_S Inv m q (fun r => r.toInt64) (f_L_mist h a x1 q) (fun h9 => f_X8_mist h9 m x1)) (hk : k + 1 ≤ 601024) (hs : n + 6 ≤ 7293034) (kk : ∀ h2, Inv h2 → GX l G M_L_law (g_phL Q Z) (k + 1) (n + 6) 1417 [some (.ref b), some (.ref a), some (.ref m), some (.ref q), some (.int i), none, none, none, none] [] h2 (some ())) : GX l G M_L_law (g_phL Q Z) k n 642 [some (.ref b), some (.ref a), some (.ref m), some (.ref q), some (.int i), none, none, none, none] [] h (some ()) := by
  unfold lw_S at hS
  obtain ⟨c, h1, e1, hS⟩ := hS
  refine X_aload_n rfl rfl rfl ?_
  refine X_aload_n rfl rfl rfl ?_
  refine X_iload rfl rfl rfl ?_
  refine X_iconst (v := 1) rfl rfl (by decide) ?_
  refine X_iadd rfl rfl ?_
  refine X_sld hX rfl rfl hi1 hv1 ?_
  refine X_aload_n rfl rfl rfl ?_
  refine X_callH (M' := M_L_mist) (nA := 3) (As := [.ref a, .int x1, .ref q]) (st := []) rfl rfl (by decide +kernel) rfl rfl rfl (ct_L_mist hl e1) hk hs (fun n' => ?_)
  obtain ⟨r, h2, e2, e3, g1, g2, e4, hI⟩ := hS n'
  refine X_rfl (st' := [.int c]) rfl ?_
  refine X_istore rfl rfl rfl rfl ?_
  refine X_aload_n rfl rfl rfl ?_
  refine X_aload_n rfl rfl rfl ?_
  refine X_iload rfl rfl rfl ?_
  refine X_iconst (v := 1) rfl rfl (by decide) ?_
  refine X_iadd rfl rfl ?_
  refine X_sld hX rfl rfl hi1 hv1 ?_
  refine X_callV (M' := M_X8_mist) (nA := 1) (b := m) (ci := 8) (As := [.int x1]) (st := []) rfl rfl (by decide +kernel) rfl rfl rfl ⟨g1, by decide⟩ (ct_X8_mist e2) (g_ble (by exact hk)) (g_ble (by exact hs)) ?_
  refine X_rfl (st' := [.int r]) rfl ?_
  refine X_istore rfl rfl rfl rfl ?_
  refine X_aload_n rfl rfl rfl ?_
  refine X_callV (M' := M_X8_thrown) (nA := 0) (b := m) (ci := 8) (As := []) (st := []) rfl rfl (by decide +kernel) rfl rfl rfl ⟨g2, by decide⟩ (ct_X8_thrown e3) (g_ble (by exact hk)) (g_ble (by exact hs)) ?_
  refine X_rfl (st' := [.int c]) rfl ?_
  refine X_iload rfl rfl rfl ?_
  refine X_icmp_eq rfl rfl (fun _ => ?_) (fun cc => absurd rfl cc)
  refine X_iload rfl rfl rfl ?_
  refine X_if_ne rfl rfl (fun hc => ?_) (fun hc => ?_)
  · refine X_goto rfl rfl ?_
    exact X_sub (g_sub_s (g_sub_s (g_sub_s (g_sub_s (g_sub_s (g_sub_n (g_sub_n (g_sub_n (g_sub_n g_sub_0))))))))) (kk _ hI)
  · refine X_aload_n rfl rfl rfl ?_
    refine X_iconst (v := 0) rfl rfl (by decide) ?_
    refine X_lldE rfl rfl (e4 (by simpa using hc)) ?_
    refine X_iload rfl rfl rfl ?_
    refine X_i2l rfl rfl ?_
    refine X_lcmp rfl rfl ?_
    refine X_rfl (st' := [.int 0]) (by simp [lg_cmp_self]) ?_
    refine X_if_eq rfl rfl (fun _ => ?_) (fun cc => absurd rfl cc)
    refine X_goto rfl rfl ?_
    exact X_sub (g_sub_s (g_sub_s (g_sub_s (g_sub_s (g_sub_s (g_sub_n (g_sub_n (g_sub_n (g_sub_n g_sub_0))))))))) (kk _ hI)
set_option maxRecDepth 100000 in
theorem law_key (hl : l.stackTraces = false) (hX : g_scr G Q b N xs) (hi1 : vp_in (i + 1) N) (hv1 : xs (i + 1).toNatClampNeg = x1) (hi2 : vp_in (i + 2) N) (hv2 : xs (i + 2).toNatClampNeg = x2) (hS : lw_S Inv m q (fun r => r.toInt64) (f_L_key h a x1 x2 q) (fun h9 => f_X8_key h9 m x1 x2)) (hk : k + 1 ≤ 601024) (hs : n + 6 ≤ 7293034) (kk : ∀ h2, Inv h2 → GX l G M_L_law (g_phL Q Z) (k + 1) (n + 6) 1417 [some (.ref b), some (.ref a), some (.ref m), some (.ref q), some (.int i), none, none, none, none] [] h2 (some ())) : GX l G M_L_law (g_phL Q Z) k n 698 [some (.ref b), some (.ref a), some (.ref m), some (.ref q), some (.int i), none, none, none, none] [] h (some ()) := by
  unfold lw_S at hS
  obtain ⟨c, h1, e1, hS⟩ := hS
  refine X_aload_n rfl rfl rfl ?_
  refine X_aload_n rfl rfl rfl ?_
  refine X_iload rfl rfl rfl ?_
  refine X_iconst (v := 1) rfl rfl (by decide) ?_
  refine X_iadd rfl rfl ?_
  refine X_sld hX rfl rfl hi1 hv1 ?_
  refine X_aload_n rfl rfl rfl ?_
  refine X_iload rfl rfl rfl ?_
  refine X_iconst (v := 2) rfl rfl (by decide) ?_
  refine X_iadd rfl rfl ?_
  refine X_sld hX rfl rfl hi2 hv2 ?_
  refine X_aload_n rfl rfl rfl ?_
  refine X_callH (M' := M_L_key) (nA := 4) (As := [.ref a, .int x1, .int x2, .ref q]) (st := []) rfl rfl (by decide +kernel) rfl rfl rfl (ct_L_key hl e1) hk hs (fun n' => ?_)
  obtain ⟨r, h2, e2, e3, g1, g2, e4, hI⟩ := hS n'
  refine X_rfl (st' := [.int c]) rfl ?_
  refine X_istore rfl rfl rfl rfl ?_
  refine X_aload_n rfl rfl rfl ?_
  refine X_aload_n rfl rfl rfl ?_
  refine X_iload rfl rfl rfl ?_
  refine X_iconst (v := 1) rfl rfl (by decide) ?_
  refine X_iadd rfl rfl ?_
  refine X_sld hX rfl rfl hi1 hv1 ?_
  refine X_aload_n rfl rfl rfl ?_
  refine X_iload rfl rfl rfl ?_
  refine X_iconst (v := 2) rfl rfl (by decide) ?_
  refine X_iadd rfl rfl ?_
  refine X_sld hX rfl rfl hi2 hv2 ?_
  refine X_callV (M' := M_X8_key) (nA := 2) (b := m) (ci := 8) (As := [.int x1, .int x2]) (st := []) rfl rfl (by decide +kernel) rfl rfl rfl ⟨g1, by decide⟩ (ct_X8_key e2) (g_ble (by exact hk)) (g_ble (by exact hs)) ?_
  refine X_rfl (st' := [.int r]) rfl ?_
  refine X_istore rfl rfl rfl rfl ?_
  refine X_aload_n rfl rfl rfl ?_
  refine X_callV (M' := M_X8_thrown) (nA := 0) (b := m) (ci := 8) (As := []) (st := []) rfl rfl (by decide +kernel) rfl rfl rfl ⟨g2, by decide⟩ (ct_X8_thrown e3) (g_ble (by exact hk)) (g_ble (by exact hs)) ?_
  refine X_rfl (st' := [.int c]) rfl ?_
  refine X_iload rfl rfl rfl ?_
  refine X_icmp_eq rfl rfl (fun _ => ?_) (fun cc => absurd rfl cc)
  refine X_iload rfl rfl rfl ?_
  refine X_if_ne rfl rfl (fun hc => ?_) (fun hc => ?_)
  · refine X_goto rfl rfl ?_
    exact X_sub (g_sub_s (g_sub_s (g_sub_s (g_sub_s (g_sub_s (g_sub_n (g_sub_n (g_sub_n (g_sub_n g_sub_0))))))))) (kk _ hI)
  · refine X_aload_n rfl rfl rfl ?_
    refine X_iconst (v := 0) rfl rfl (by decide) ?_
    refine X_lldE rfl rfl (e4 (by simpa using hc)) ?_
    refine X_iload rfl rfl rfl ?_
    refine X_i2l rfl rfl ?_
    refine X_lcmp rfl rfl ?_
    refine X_rfl (st' := [.int 0]) (by simp [lg_cmp_self]) ?_
    refine X_if_eq rfl rfl (fun _ => ?_) (fun cc => absurd rfl cc)
    refine X_goto rfl rfl ?_
    exact X_sub (g_sub_s (g_sub_s (g_sub_s (g_sub_s (g_sub_s (g_sub_n (g_sub_n (g_sub_n (g_sub_n g_sub_0))))))))) (kk _ hI)
set_option maxRecDepth 100000 in
theorem law_next (hl : l.stackTraces = false) (hX : g_scr G Q b N xs) (hi1 : vp_in (i + 1) N) (hv1 : xs (i + 1).toNatClampNeg = x1) (hS : lw_S Inv m q (fun r => r.toInt64) (f_L_next h a x1 q) (fun h9 => f_X8_next h9 m x1)) (hk : k + 1 ≤ 601024) (hs : n + 6 ≤ 7293034) (kk : ∀ h2, Inv h2 → GX l G M_L_law (g_phL Q Z) (k + 1) (n + 6) 1417 [some (.ref b), some (.ref a), some (.ref m), some (.ref q), some (.int i), none, none, none, none] [] h2 (some ())) : GX l G M_L_law (g_phL Q Z) k n 766 [some (.ref b), some (.ref a), some (.ref m), some (.ref q), some (.int i), none, none, none, none] [] h (some ()) := by
  unfold lw_S at hS
  obtain ⟨c, h1, e1, hS⟩ := hS
  refine X_aload_n rfl rfl rfl ?_
  refine X_aload_n rfl rfl rfl ?_
  refine X_iload rfl rfl rfl ?_
  refine X_iconst (v := 1) rfl rfl (by decide) ?_
  refine X_iadd rfl rfl ?_
  refine X_sld hX rfl rfl hi1 hv1 ?_
  refine X_aload_n rfl rfl rfl ?_
  refine X_callH (M' := M_L_next) (nA := 3) (As := [.ref a, .int x1, .ref q]) (st := []) rfl rfl (by decide +kernel) rfl rfl rfl (ct_L_next hl e1) hk hs (fun n' => ?_)
  obtain ⟨r, h2, e2, e3, g1, g2, e4, hI⟩ := hS n'
  refine X_rfl (st' := [.int c]) rfl ?_
  refine X_istore rfl rfl rfl rfl ?_
  refine X_aload_n rfl rfl rfl ?_
  refine X_aload_n rfl rfl rfl ?_
  refine X_iload rfl rfl rfl ?_
  refine X_iconst (v := 1) rfl rfl (by decide) ?_
  refine X_iadd rfl rfl ?_
  refine X_sld hX rfl rfl hi1 hv1 ?_
  refine X_callV (M' := M_X8_next) (nA := 1) (b := m) (ci := 8) (As := [.int x1]) (st := []) rfl rfl (by decide +kernel) rfl rfl rfl ⟨g1, by decide⟩ (ct_X8_next e2) (g_ble (by exact hk)) (g_ble (by exact hs)) ?_
  refine X_rfl (st' := [.int r]) rfl ?_
  refine X_istore rfl rfl rfl rfl ?_
  refine X_aload_n rfl rfl rfl ?_
  refine X_callV (M' := M_X8_thrown) (nA := 0) (b := m) (ci := 8) (As := []) (st := []) rfl rfl (by decide +kernel) rfl rfl rfl ⟨g2, by decide⟩ (ct_X8_thrown e3) (g_ble (by exact hk)) (g_ble (by exact hs)) ?_
  refine X_rfl (st' := [.int c]) rfl ?_
  refine X_iload rfl rfl rfl ?_
  refine X_icmp_eq rfl rfl (fun _ => ?_) (fun cc => absurd rfl cc)
  refine X_iload rfl rfl rfl ?_
  refine X_if_ne rfl rfl (fun hc => ?_) (fun hc => ?_)
  · refine X_goto rfl rfl ?_
    exact X_sub (g_sub_s (g_sub_s (g_sub_s (g_sub_s (g_sub_s (g_sub_n (g_sub_n (g_sub_n (g_sub_n g_sub_0))))))))) (kk _ hI)
  · refine X_aload_n rfl rfl rfl ?_
    refine X_iconst (v := 0) rfl rfl (by decide) ?_
    refine X_lldE rfl rfl (e4 (by simpa using hc)) ?_
    refine X_iload rfl rfl rfl ?_
    refine X_i2l rfl rfl ?_
    refine X_lcmp rfl rfl ?_
    refine X_rfl (st' := [.int 0]) (by simp [lg_cmp_self]) ?_
    refine X_if_eq rfl rfl (fun _ => ?_) (fun cc => absurd rfl cc)
    refine X_goto rfl rfl ?_
    exact X_sub (g_sub_s (g_sub_s (g_sub_s (g_sub_s (g_sub_s (g_sub_n (g_sub_n (g_sub_n (g_sub_n g_sub_0))))))))) (kk _ hI)
set_option maxRecDepth 100000 in
theorem law_foretold (hl : l.stackTraces = false) (hX : g_scr G Q b N xs) (hi1 : vp_in (i + 1) N) (hv1 : xs (i + 1).toNatClampNeg = x1) (hS : lw_S Inv m q (fun r => r.toInt64) (f_L_foretold h a x1 q) (fun h9 => f_X8_foretold h9 m x1)) (hk : k + 1 ≤ 601024) (hs : n + 6 ≤ 7293034) (kk : ∀ h2, Inv h2 → GX l G M_L_law (g_phL Q Z) (k + 1) (n + 6) 1417 [some (.ref b), some (.ref a), some (.ref m), some (.ref q), some (.int i), none, none, none, none] [] h2 (some ())) : GX l G M_L_law (g_phL Q Z) k n 822 [some (.ref b), some (.ref a), some (.ref m), some (.ref q), some (.int i), none, none, none, none] [] h (some ()) := by
  unfold lw_S at hS
  obtain ⟨c, h1, e1, hS⟩ := hS
  refine X_aload_n rfl rfl rfl ?_
  refine X_aload_n rfl rfl rfl ?_
  refine X_iload rfl rfl rfl ?_
  refine X_iconst (v := 1) rfl rfl (by decide) ?_
  refine X_iadd rfl rfl ?_
  refine X_sld hX rfl rfl hi1 hv1 ?_
  refine X_aload_n rfl rfl rfl ?_
  refine X_callH (M' := M_L_foretold) (nA := 3) (As := [.ref a, .int x1, .ref q]) (st := []) rfl rfl (by decide +kernel) rfl rfl rfl (ct_L_foretold hl e1) hk hs (fun n' => ?_)
  obtain ⟨r, h2, e2, e3, g1, g2, e4, hI⟩ := hS n'
  refine X_rfl (st' := [.int c]) rfl ?_
  refine X_istore rfl rfl rfl rfl ?_
  refine X_aload_n rfl rfl rfl ?_
  refine X_aload_n rfl rfl rfl ?_
  refine X_iload rfl rfl rfl ?_
  refine X_iconst (v := 1) rfl rfl (by decide) ?_
  refine X_iadd rfl rfl ?_
  refine X_sld hX rfl rfl hi1 hv1 ?_
  refine X_callV (M' := M_X8_foretold) (nA := 1) (b := m) (ci := 8) (As := [.int x1]) (st := []) rfl rfl (by decide +kernel) rfl rfl rfl ⟨g1, by decide⟩ (ct_X8_foretold e2) (g_ble (by exact hk)) (g_ble (by exact hs)) ?_
  refine X_rfl (st' := [.int r]) rfl ?_
  refine X_istore rfl rfl rfl rfl ?_
  refine X_aload_n rfl rfl rfl ?_
  refine X_callV (M' := M_X8_thrown) (nA := 0) (b := m) (ci := 8) (As := []) (st := []) rfl rfl (by decide +kernel) rfl rfl rfl ⟨g2, by decide⟩ (ct_X8_thrown e3) (g_ble (by exact hk)) (g_ble (by exact hs)) ?_
  refine X_rfl (st' := [.int c]) rfl ?_
  refine X_iload rfl rfl rfl ?_
  refine X_icmp_eq rfl rfl (fun _ => ?_) (fun cc => absurd rfl cc)
  refine X_iload rfl rfl rfl ?_
  refine X_if_ne rfl rfl (fun hc => ?_) (fun hc => ?_)
  · refine X_goto rfl rfl ?_
    exact X_sub (g_sub_s (g_sub_s (g_sub_s (g_sub_s (g_sub_s (g_sub_n (g_sub_n (g_sub_n (g_sub_n g_sub_0))))))))) (kk _ hI)
  · refine X_aload_n rfl rfl rfl ?_
    refine X_iconst (v := 0) rfl rfl (by decide) ?_
    refine X_lldE rfl rfl (e4 (by simpa using hc)) ?_
    refine X_iload rfl rfl rfl ?_
    refine X_i2l rfl rfl ?_
    refine X_lcmp rfl rfl ?_
    refine X_rfl (st' := [.int 0]) (by simp [lg_cmp_self]) ?_
    refine X_if_eq rfl rfl (fun _ => ?_) (fun cc => absurd rfl cc)
    refine X_goto rfl rfl ?_
    exact X_sub (g_sub_s (g_sub_s (g_sub_s (g_sub_s (g_sub_s (g_sub_n (g_sub_n (g_sub_n (g_sub_n g_sub_0))))))))) (kk _ hI)
set_option maxRecDepth 100000 in
theorem law_leastPower (hl : l.stackTraces = false) (hX : g_scr G Q b N xs) (hi1 : vp_in (i + 1) N) (hv1 : xs (i + 1).toNatClampNeg = x1) (hS : lw_S Inv m q (fun r => r.toInt64) (f_L_leastPower h a x1 q) (fun h9 => f_X8_leastPower h9 m x1)) (hk : k + 1 ≤ 601024) (hs : n + 6 ≤ 7293034) (kk : ∀ h2, Inv h2 → GX l G M_L_law (g_phL Q Z) (k + 1) (n + 6) 1417 [some (.ref b), some (.ref a), some (.ref m), some (.ref q), some (.int i), none, none, none, none] [] h2 (some ())) : GX l G M_L_law (g_phL Q Z) k n 878 [some (.ref b), some (.ref a), some (.ref m), some (.ref q), some (.int i), none, none, none, none] [] h (some ()) := by
  unfold lw_S at hS
  obtain ⟨c, h1, e1, hS⟩ := hS
  refine X_aload_n rfl rfl rfl ?_
  refine X_aload_n rfl rfl rfl ?_
  refine X_iload rfl rfl rfl ?_
  refine X_iconst (v := 1) rfl rfl (by decide) ?_
  refine X_iadd rfl rfl ?_
  refine X_sld hX rfl rfl hi1 hv1 ?_
  refine X_aload_n rfl rfl rfl ?_
  refine X_callH (M' := M_L_leastPower) (nA := 3) (As := [.ref a, .int x1, .ref q]) (st := []) rfl rfl (by decide +kernel) rfl rfl rfl (ct_L_leastPower hl e1) hk hs (fun n' => ?_)
  obtain ⟨r, h2, e2, e3, g1, g2, e4, hI⟩ := hS n'
  refine X_rfl (st' := [.int c]) rfl ?_
  refine X_istore rfl rfl rfl rfl ?_
  refine X_aload_n rfl rfl rfl ?_
  refine X_aload_n rfl rfl rfl ?_
  refine X_iload rfl rfl rfl ?_
  refine X_iconst (v := 1) rfl rfl (by decide) ?_
  refine X_iadd rfl rfl ?_
  refine X_sld hX rfl rfl hi1 hv1 ?_
  refine X_callV (M' := M_X8_leastPower) (nA := 1) (b := m) (ci := 8) (As := [.int x1]) (st := []) rfl rfl (by decide +kernel) rfl rfl rfl ⟨g1, by decide⟩ (ct_X8_leastPower e2) (g_ble (by exact hk)) (g_ble (by exact hs)) ?_
  refine X_rfl (st' := [.int r]) rfl ?_
  refine X_istore rfl rfl rfl rfl ?_
  refine X_aload_n rfl rfl rfl ?_
  refine X_callV (M' := M_X8_thrown) (nA := 0) (b := m) (ci := 8) (As := []) (st := []) rfl rfl (by decide +kernel) rfl rfl rfl ⟨g2, by decide⟩ (ct_X8_thrown e3) (g_ble (by exact hk)) (g_ble (by exact hs)) ?_
  refine X_rfl (st' := [.int c]) rfl ?_
  refine X_iload rfl rfl rfl ?_
  refine X_icmp_eq rfl rfl (fun _ => ?_) (fun cc => absurd rfl cc)
  refine X_iload rfl rfl rfl ?_
  refine X_if_ne rfl rfl (fun hc => ?_) (fun hc => ?_)
  · refine X_goto rfl rfl ?_
    exact X_sub (g_sub_s (g_sub_s (g_sub_s (g_sub_s (g_sub_s (g_sub_n (g_sub_n (g_sub_n (g_sub_n g_sub_0))))))))) (kk _ hI)
  · refine X_aload_n rfl rfl rfl ?_
    refine X_iconst (v := 0) rfl rfl (by decide) ?_
    refine X_lldE rfl rfl (e4 (by simpa using hc)) ?_
    refine X_iload rfl rfl rfl ?_
    refine X_i2l rfl rfl ?_
    refine X_lcmp rfl rfl ?_
    refine X_rfl (st' := [.int 0]) (by simp [lg_cmp_self]) ?_
    refine X_if_eq rfl rfl (fun _ => ?_) (fun cc => absurd rfl cc)
    refine X_goto rfl rfl ?_
    exact X_sub (g_sub_s (g_sub_s (g_sub_s (g_sub_s (g_sub_s (g_sub_n (g_sub_n (g_sub_n (g_sub_n g_sub_0))))))))) (kk _ hI)
set_option maxRecDepth 100000 in
theorem law_quality (hl : l.stackTraces = false) (hX : g_scr G Q b N xs) (hS : g_is h a 7 = true ∧ g_is h m 8 = true ∧ ∃ (r : UInt64) (h2 : gH), f_X7_quality h a = some r ∧ f_X8_quality h m = some (r, h2) ∧ Inv h2 ∧ Op.cmpValue (FP.dcmp r r) .l = 0) (hk : k + 0 ≤ 601024) (hs : n + 0 ≤ 7293034) (kk : ∀ h2, Inv h2 → GX l G M_L_law (g_phL Q Z) (k + 0) (n + 0) 1417 [some (.ref b), some (.ref a), some (.ref m), some (.ref q), some (.int i), none, none, none, none] [] h2 (some ())) : GX l G M_L_law (g_phL Q Z) k n 934 [some (.ref b), some (.ref a), some (.ref m), some (.ref q), some (.int i), none, none, none, none] [] h (some ()) := by
  obtain ⟨g0, g1, r, h2, e1, e2, hI, hD⟩ := hS
  refine X_aload_n rfl rfl rfl ?_
  refine X_callV (M' := M_X7_quality) (nA := 0) (b := a) (ci := 7) (As := []) (st := []) rfl rfl (by decide +kernel) rfl rfl rfl ⟨g0, by decide⟩ (ct_X7_quality e1) (g_ble (by exact hk)) (g_ble (by exact hs)) ?_
  refine X_rfl (st' := [.double r]) rfl ?_
  refine X_dstore rfl rfl rfl rfl ?_
  refine X_aload_n rfl rfl rfl ?_
  refine X_callV (M' := M_X8_quality) (nA := 0) (b := m) (ci := 8) (As := []) (st := []) rfl rfl (by decide +kernel) rfl rfl rfl ⟨g1, by decide⟩ (ct_X8_quality e2) (g_ble (by exact hk)) (g_ble (by exact hs)) ?_
  refine X_rfl (st' := [.double r]) rfl ?_
  refine X_dstore rfl rfl rfl rfl ?_
  refine X_dload rfl rfl rfl ?_
  refine X_dload rfl rfl rfl ?_
  refine X_dcmp rfl rfl ?_
  refine X_if_eq rfl rfl (fun _ => ?_) (fun cc => absurd hD cc)
  refine X_goto rfl rfl ?_
  exact X_sub (g_sub_s (g_sub_s (g_sub_s (g_sub_s (g_sub_s (g_sub_n (g_sub_n (g_sub_n (g_sub_n g_sub_0))))))))) (kk _ hI)
set_option maxRecDepth 100000 in
theorem law_pass (hl : l.stackTraces = false) (hX : g_scr G Q b N xs) (hi1 : vp_in (i + 1) N) (hv1 : xs (i + 1).toNatClampNeg = x1) (hS : lw_S Inv m q (fun r => r.toInt64) (f_L_pass h a x1 q) (fun h9 => f_X8_pass h9 m x1)) (hk : k + 1 ≤ 601024) (hs : n + 6 ≤ 7293034) (kk : ∀ h2, Inv h2 → GX l G M_L_law (g_phL Q Z) (k + 1) (n + 6) 1417 [some (.ref b), some (.ref a), some (.ref m), some (.ref q), some (.int i), none, none, none, none] [] h2 (some ())) : GX l G M_L_law (g_phL Q Z) k n 975 [some (.ref b), some (.ref a), some (.ref m), some (.ref q), some (.int i), none, none, none, none] [] h (some ()) := by
  unfold lw_S at hS
  obtain ⟨c, h1, e1, hS⟩ := hS
  refine X_aload_n rfl rfl rfl ?_
  refine X_aload_n rfl rfl rfl ?_
  refine X_iload rfl rfl rfl ?_
  refine X_iconst (v := 1) rfl rfl (by decide) ?_
  refine X_iadd rfl rfl ?_
  refine X_sld hX rfl rfl hi1 hv1 ?_
  refine X_aload_n rfl rfl rfl ?_
  refine X_callH (M' := M_L_pass) (nA := 3) (As := [.ref a, .int x1, .ref q]) (st := []) rfl rfl (by decide +kernel) rfl rfl rfl (ct_L_pass hl e1) hk hs (fun n' => ?_)
  obtain ⟨r, h2, e2, e3, g1, g2, e4, hI⟩ := hS n'
  refine X_rfl (st' := [.int c]) rfl ?_
  refine X_istore rfl rfl rfl rfl ?_
  refine X_aload_n rfl rfl rfl ?_
  refine X_aload_n rfl rfl rfl ?_
  refine X_iload rfl rfl rfl ?_
  refine X_iconst (v := 1) rfl rfl (by decide) ?_
  refine X_iadd rfl rfl ?_
  refine X_sld hX rfl rfl hi1 hv1 ?_
  refine X_callV (M' := M_X8_pass) (nA := 1) (b := m) (ci := 8) (As := [.int x1]) (st := []) rfl rfl (by decide +kernel) rfl rfl rfl ⟨g1, by decide⟩ (ct_X8_pass e2) (g_ble (by exact hk)) (g_ble (by exact hs)) ?_
  refine X_rfl (st' := [.int r]) rfl ?_
  refine X_istore rfl rfl rfl rfl ?_
  refine X_aload_n rfl rfl rfl ?_
  refine X_callV (M' := M_X8_thrown) (nA := 0) (b := m) (ci := 8) (As := []) (st := []) rfl rfl (by decide +kernel) rfl rfl rfl ⟨g2, by decide⟩ (ct_X8_thrown e3) (g_ble (by exact hk)) (g_ble (by exact hs)) ?_
  refine X_rfl (st' := [.int c]) rfl ?_
  refine X_iload rfl rfl rfl ?_
  refine X_icmp_eq rfl rfl (fun _ => ?_) (fun cc => absurd rfl cc)
  refine X_iload rfl rfl rfl ?_
  refine X_if_ne rfl rfl (fun hc => ?_) (fun hc => ?_)
  · refine X_goto rfl rfl ?_
    exact X_sub (g_sub_s (g_sub_s (g_sub_s (g_sub_s (g_sub_s (g_sub_n (g_sub_n (g_sub_n (g_sub_n g_sub_0))))))))) (kk _ hI)
  · refine X_aload_n rfl rfl rfl ?_
    refine X_iconst (v := 0) rfl rfl (by decide) ?_
    refine X_lldE rfl rfl (e4 (by simpa using hc)) ?_
    refine X_iload rfl rfl rfl ?_
    refine X_i2l rfl rfl ?_
    refine X_lcmp rfl rfl ?_
    refine X_rfl (st' := [.int 0]) (by simp [lg_cmp_self]) ?_
    refine X_if_eq rfl rfl (fun _ => ?_) (fun cc => absurd rfl cc)
    refine X_goto rfl rfl ?_
    exact X_sub (g_sub_s (g_sub_s (g_sub_s (g_sub_s (g_sub_s (g_sub_n (g_sub_n (g_sub_n (g_sub_n g_sub_0))))))))) (kk _ hI)
set_option maxRecDepth 100000 in
theorem law_send (hl : l.stackTraces = false) (hX : g_scr G Q b N xs) (hi1 : vp_in (i + 1) N) (hv1 : xs (i + 1).toNatClampNeg = x1) (hi2 : vp_in (i + 2) N) (hv2 : xs (i + 2).toNatClampNeg = x2) (hi3 : vp_in (i + 3) N) (hv3 : xs (i + 3).toNatClampNeg = x3) (hS : lw_S Inv m q (fun r => r.toInt64) (f_L_send h a x1 x2 x3 q) (fun h9 => f_X8_send h9 m x1 x2 x3)) (hk : k + 1 ≤ 601024) (hs : n + 6 ≤ 7293034) (kk : ∀ h2, Inv h2 → GX l G M_L_law (g_phL Q Z) (k + 1) (n + 6) 1417 [some (.ref b), some (.ref a), some (.ref m), some (.ref q), some (.int i), none, none, none, none] [] h2 (some ())) : GX l G M_L_law (g_phL Q Z) k n 1031 [some (.ref b), some (.ref a), some (.ref m), some (.ref q), some (.int i), none, none, none, none] [] h (some ()) := by
  unfold lw_S at hS
  obtain ⟨c, h1, e1, hS⟩ := hS
  refine X_aload_n rfl rfl rfl ?_
  refine X_aload_n rfl rfl rfl ?_
  refine X_iload rfl rfl rfl ?_
  refine X_iconst (v := 1) rfl rfl (by decide) ?_
  refine X_iadd rfl rfl ?_
  refine X_sld hX rfl rfl hi1 hv1 ?_
  refine X_aload_n rfl rfl rfl ?_
  refine X_iload rfl rfl rfl ?_
  refine X_iconst (v := 2) rfl rfl (by decide) ?_
  refine X_iadd rfl rfl ?_
  refine X_sld hX rfl rfl hi2 hv2 ?_
  refine X_aload_n rfl rfl rfl ?_
  refine X_iload rfl rfl rfl ?_
  refine X_iconst (v := 3) rfl rfl (by decide) ?_
  refine X_iadd rfl rfl ?_
  refine X_sld hX rfl rfl hi3 hv3 ?_
  refine X_aload_n rfl rfl rfl ?_
  refine X_callH (M' := M_L_send) (nA := 5) (As := [.ref a, .int x1, .int x2, .int x3, .ref q]) (st := []) rfl rfl (by decide +kernel) rfl rfl rfl (ct_L_send hl e1) hk hs (fun n' => ?_)
  obtain ⟨r, h2, e2, e3, g1, g2, e4, hI⟩ := hS n'
  refine X_rfl (st' := [.int c]) rfl ?_
  refine X_istore rfl rfl rfl rfl ?_
  refine X_aload_n rfl rfl rfl ?_
  refine X_aload_n rfl rfl rfl ?_
  refine X_iload rfl rfl rfl ?_
  refine X_iconst (v := 1) rfl rfl (by decide) ?_
  refine X_iadd rfl rfl ?_
  refine X_sld hX rfl rfl hi1 hv1 ?_
  refine X_aload_n rfl rfl rfl ?_
  refine X_iload rfl rfl rfl ?_
  refine X_iconst (v := 2) rfl rfl (by decide) ?_
  refine X_iadd rfl rfl ?_
  refine X_sld hX rfl rfl hi2 hv2 ?_
  refine X_aload_n rfl rfl rfl ?_
  refine X_iload rfl rfl rfl ?_
  refine X_iconst (v := 3) rfl rfl (by decide) ?_
  refine X_iadd rfl rfl ?_
  refine X_sld hX rfl rfl hi3 hv3 ?_
  refine X_callV (M' := M_X8_send) (nA := 3) (b := m) (ci := 8) (As := [.int x1, .int x2, .int x3]) (st := []) rfl rfl (by decide +kernel) rfl rfl rfl ⟨g1, by decide⟩ (ct_X8_send e2) (g_ble (by exact hk)) (g_ble (by exact hs)) ?_
  refine X_rfl (st' := [.int r]) rfl ?_
  refine X_istore rfl rfl rfl rfl ?_
  refine X_aload_n rfl rfl rfl ?_
  refine X_callV (M' := M_X8_thrown) (nA := 0) (b := m) (ci := 8) (As := []) (st := []) rfl rfl (by decide +kernel) rfl rfl rfl ⟨g2, by decide⟩ (ct_X8_thrown e3) (g_ble (by exact hk)) (g_ble (by exact hs)) ?_
  refine X_rfl (st' := [.int c]) rfl ?_
  refine X_iload rfl rfl rfl ?_
  refine X_icmp_eq rfl rfl (fun _ => ?_) (fun cc => absurd rfl cc)
  refine X_iload rfl rfl rfl ?_
  refine X_if_ne rfl rfl (fun hc => ?_) (fun hc => ?_)
  · refine X_goto rfl rfl ?_
    exact X_sub (g_sub_s (g_sub_s (g_sub_s (g_sub_s (g_sub_s (g_sub_n (g_sub_n (g_sub_n (g_sub_n g_sub_0))))))))) (kk _ hI)
  · refine X_aload_n rfl rfl rfl ?_
    refine X_iconst (v := 0) rfl rfl (by decide) ?_
    refine X_lldE rfl rfl (e4 (by simpa using hc)) ?_
    refine X_iload rfl rfl rfl ?_
    refine X_i2l rfl rfl ?_
    refine X_lcmp rfl rfl ?_
    refine X_rfl (st' := [.int 0]) (by simp [lg_cmp_self]) ?_
    refine X_if_eq rfl rfl (fun _ => ?_) (fun cc => absurd rfl cc)
    refine X_goto rfl rfl ?_
    exact X_sub (g_sub_s (g_sub_s (g_sub_s (g_sub_s (g_sub_s (g_sub_n (g_sub_n (g_sub_n (g_sub_n g_sub_0))))))))) (kk _ hI)
set_option maxRecDepth 100000 in
theorem law_fog (hl : l.stackTraces = false) (hX : g_scr G Q b N xs) (hi1 : vp_in (i + 1) N) (hv1 : xs (i + 1).toNatClampNeg = x1) (hi2 : vp_in (i + 2) N) (hv2 : xs (i + 2).toNatClampNeg = x2) (hi3 : vp_in (i + 3) N) (hv3 : xs (i + 3).toNatClampNeg = x3) (hS : lw_S Inv m q (fun r => r.toInt64) (f_L_fog h a x1 x2 x3 q) (fun h9 => f_X8_fog h9 m x1 x2 x3)) (hk : k + 1 ≤ 601024) (hs : n + 6 ≤ 7293034) (kk : ∀ h2, Inv h2 → GX l G M_L_law (g_phL Q Z) (k + 1) (n + 6) 1417 [some (.ref b), some (.ref a), some (.ref m), some (.ref q), some (.int i), none, none, none, none] [] h2 (some ())) : GX l G M_L_law (g_phL Q Z) k n 1111 [some (.ref b), some (.ref a), some (.ref m), some (.ref q), some (.int i), none, none, none, none] [] h (some ()) := by
  unfold lw_S at hS
  obtain ⟨c, h1, e1, hS⟩ := hS
  refine X_aload_n rfl rfl rfl ?_
  refine X_aload_n rfl rfl rfl ?_
  refine X_iload rfl rfl rfl ?_
  refine X_iconst (v := 1) rfl rfl (by decide) ?_
  refine X_iadd rfl rfl ?_
  refine X_sld hX rfl rfl hi1 hv1 ?_
  refine X_aload_n rfl rfl rfl ?_
  refine X_iload rfl rfl rfl ?_
  refine X_iconst (v := 2) rfl rfl (by decide) ?_
  refine X_iadd rfl rfl ?_
  refine X_sld hX rfl rfl hi2 hv2 ?_
  refine X_aload_n rfl rfl rfl ?_
  refine X_iload rfl rfl rfl ?_
  refine X_iconst (v := 3) rfl rfl (by decide) ?_
  refine X_iadd rfl rfl ?_
  refine X_sld hX rfl rfl hi3 hv3 ?_
  refine X_aload_n rfl rfl rfl ?_
  refine X_callH (M' := M_L_fog) (nA := 5) (As := [.ref a, .int x1, .int x2, .int x3, .ref q]) (st := []) rfl rfl (by decide +kernel) rfl rfl rfl (ct_L_fog hl e1) hk hs (fun n' => ?_)
  obtain ⟨r, h2, e2, e3, g1, g2, e4, hI⟩ := hS n'
  refine X_rfl (st' := [.int c]) rfl ?_
  refine X_istore rfl rfl rfl rfl ?_
  refine X_aload_n rfl rfl rfl ?_
  refine X_aload_n rfl rfl rfl ?_
  refine X_iload rfl rfl rfl ?_
  refine X_iconst (v := 1) rfl rfl (by decide) ?_
  refine X_iadd rfl rfl ?_
  refine X_sld hX rfl rfl hi1 hv1 ?_
  refine X_aload_n rfl rfl rfl ?_
  refine X_iload rfl rfl rfl ?_
  refine X_iconst (v := 2) rfl rfl (by decide) ?_
  refine X_iadd rfl rfl ?_
  refine X_sld hX rfl rfl hi2 hv2 ?_
  refine X_aload_n rfl rfl rfl ?_
  refine X_iload rfl rfl rfl ?_
  refine X_iconst (v := 3) rfl rfl (by decide) ?_
  refine X_iadd rfl rfl ?_
  refine X_sld hX rfl rfl hi3 hv3 ?_
  refine X_callV (M' := M_X8_fog) (nA := 3) (b := m) (ci := 8) (As := [.int x1, .int x2, .int x3]) (st := []) rfl rfl (by decide +kernel) rfl rfl rfl ⟨g1, by decide⟩ (ct_X8_fog e2) (g_ble (by exact hk)) (g_ble (by exact hs)) ?_
  refine X_rfl (st' := [.int r]) rfl ?_
  refine X_istore rfl rfl rfl rfl ?_
  refine X_aload_n rfl rfl rfl ?_
  refine X_callV (M' := M_X8_thrown) (nA := 0) (b := m) (ci := 8) (As := []) (st := []) rfl rfl (by decide +kernel) rfl rfl rfl ⟨g2, by decide⟩ (ct_X8_thrown e3) (g_ble (by exact hk)) (g_ble (by exact hs)) ?_
  refine X_rfl (st' := [.int c]) rfl ?_
  refine X_iload rfl rfl rfl ?_
  refine X_icmp_eq rfl rfl (fun _ => ?_) (fun cc => absurd rfl cc)
  refine X_iload rfl rfl rfl ?_
  refine X_if_ne rfl rfl (fun hc => ?_) (fun hc => ?_)
  · refine X_goto rfl rfl ?_
    exact X_sub (g_sub_s (g_sub_s (g_sub_s (g_sub_s (g_sub_s (g_sub_n (g_sub_n (g_sub_n (g_sub_n g_sub_0))))))))) (kk _ hI)
  · refine X_aload_n rfl rfl rfl ?_
    refine X_iconst (v := 0) rfl rfl (by decide) ?_
    refine X_lldE rfl rfl (e4 (by simpa using hc)) ?_
    refine X_iload rfl rfl rfl ?_
    refine X_i2l rfl rfl ?_
    refine X_lcmp rfl rfl ?_
    refine X_rfl (st' := [.int 0]) (by simp [lg_cmp_self]) ?_
    refine X_if_eq rfl rfl (fun _ => ?_) (fun cc => absurd rfl cc)
    refine X_goto rfl rfl ?_
    exact X_sub (g_sub_s (g_sub_s (g_sub_s (g_sub_s (g_sub_s (g_sub_n (g_sub_n (g_sub_n (g_sub_n g_sub_0))))))))) (kk _ hI)
set_option maxRecDepth 100000 in
theorem law_relieve (hl : l.stackTraces = false) (hX : g_scr G Q b N xs) (hi1 : vp_in (i + 1) N) (hv1 : xs (i + 1).toNatClampNeg = x1) (hi2 : vp_in (i + 2) N) (hv2 : xs (i + 2).toNatClampNeg = x2) (hS : lw_S Inv m q (fun r => r.toInt64) (f_L_relieve h a x1 x2 q) (fun h9 => f_X8_relieve h9 m x1 x2)) (hk : k + 1 ≤ 601024) (hs : n + 6 ≤ 7293034) (kk : ∀ h2, Inv h2 → GX l G M_L_law (g_phL Q Z) (k + 1) (n + 6) 1417 [some (.ref b), some (.ref a), some (.ref m), some (.ref q), some (.int i), none, none, none, none] [] h2 (some ())) : GX l G M_L_law (g_phL Q Z) k n 1191 [some (.ref b), some (.ref a), some (.ref m), some (.ref q), some (.int i), none, none, none, none] [] h (some ()) := by
  unfold lw_S at hS
  obtain ⟨c, h1, e1, hS⟩ := hS
  refine X_aload_n rfl rfl rfl ?_
  refine X_aload_n rfl rfl rfl ?_
  refine X_iload rfl rfl rfl ?_
  refine X_iconst (v := 1) rfl rfl (by decide) ?_
  refine X_iadd rfl rfl ?_
  refine X_sld hX rfl rfl hi1 hv1 ?_
  refine X_aload_n rfl rfl rfl ?_
  refine X_iload rfl rfl rfl ?_
  refine X_iconst (v := 2) rfl rfl (by decide) ?_
  refine X_iadd rfl rfl ?_
  refine X_sld hX rfl rfl hi2 hv2 ?_
  refine X_aload_n rfl rfl rfl ?_
  refine X_callH (M' := M_L_relieve) (nA := 4) (As := [.ref a, .int x1, .int x2, .ref q]) (st := []) rfl rfl (by decide +kernel) rfl rfl rfl (ct_L_relieve hl e1) hk hs (fun n' => ?_)
  obtain ⟨r, h2, e2, e3, g1, g2, e4, hI⟩ := hS n'
  refine X_rfl (st' := [.int c]) rfl ?_
  refine X_istore rfl rfl rfl rfl ?_
  refine X_aload_n rfl rfl rfl ?_
  refine X_aload_n rfl rfl rfl ?_
  refine X_iload rfl rfl rfl ?_
  refine X_iconst (v := 1) rfl rfl (by decide) ?_
  refine X_iadd rfl rfl ?_
  refine X_sld hX rfl rfl hi1 hv1 ?_
  refine X_aload_n rfl rfl rfl ?_
  refine X_iload rfl rfl rfl ?_
  refine X_iconst (v := 2) rfl rfl (by decide) ?_
  refine X_iadd rfl rfl ?_
  refine X_sld hX rfl rfl hi2 hv2 ?_
  refine X_callV (M' := M_X8_relieve) (nA := 2) (b := m) (ci := 8) (As := [.int x1, .int x2]) (st := []) rfl rfl (by decide +kernel) rfl rfl rfl ⟨g1, by decide⟩ (ct_X8_relieve e2) (g_ble (by exact hk)) (g_ble (by exact hs)) ?_
  refine X_rfl (st' := [.int r]) rfl ?_
  refine X_istore rfl rfl rfl rfl ?_
  refine X_aload_n rfl rfl rfl ?_
  refine X_callV (M' := M_X8_thrown) (nA := 0) (b := m) (ci := 8) (As := []) (st := []) rfl rfl (by decide +kernel) rfl rfl rfl ⟨g2, by decide⟩ (ct_X8_thrown e3) (g_ble (by exact hk)) (g_ble (by exact hs)) ?_
  refine X_rfl (st' := [.int c]) rfl ?_
  refine X_iload rfl rfl rfl ?_
  refine X_icmp_eq rfl rfl (fun _ => ?_) (fun cc => absurd rfl cc)
  refine X_iload rfl rfl rfl ?_
  refine X_if_ne rfl rfl (fun hc => ?_) (fun hc => ?_)
  · refine X_goto rfl rfl ?_
    exact X_sub (g_sub_s (g_sub_s (g_sub_s (g_sub_s (g_sub_s (g_sub_n (g_sub_n (g_sub_n (g_sub_n g_sub_0))))))))) (kk _ hI)
  · refine X_aload_n rfl rfl rfl ?_
    refine X_iconst (v := 0) rfl rfl (by decide) ?_
    refine X_lldE rfl rfl (e4 (by simpa using hc)) ?_
    refine X_iload rfl rfl rfl ?_
    refine X_i2l rfl rfl ?_
    refine X_lcmp rfl rfl ?_
    refine X_rfl (st' := [.int 0]) (by simp [lg_cmp_self]) ?_
    refine X_if_eq rfl rfl (fun _ => ?_) (fun cc => absurd rfl cc)
    refine X_goto rfl rfl ?_
    exact X_sub (g_sub_s (g_sub_s (g_sub_s (g_sub_s (g_sub_s (g_sub_n (g_sub_n (g_sub_n (g_sub_n g_sub_0))))))))) (kk _ hI)
set_option maxRecDepth 100000 in
theorem law_power (hl : l.stackTraces = false) (hX : g_scr G Q b N xs) (hi1 : vp_in (i + 1) N) (hv1 : xs (i + 1).toNatClampNeg = x1) (hi2 : vp_in (i + 2) N) (hv2 : xs (i + 2).toNatClampNeg = x2) (hS : lw_S Inv m q (fun r => r.toInt64) (f_L_power h a x1 x2 q) (fun h9 => f_X8_power h9 m x1 x2)) (hk : k + 1 ≤ 601024) (hs : n + 6 ≤ 7293034) (kk : ∀ h2, Inv h2 → GX l G M_L_law (g_phL Q Z) (k + 1) (n + 6) 1417 [some (.ref b), some (.ref a), some (.ref m), some (.ref q), some (.int i), none, none, none, none] [] h2 (some ())) : GX l G M_L_law (g_phL Q Z) k n 1259 [some (.ref b), some (.ref a), some (.ref m), some (.ref q), some (.int i), none, none, none, none] [] h (some ()) := by
  unfold lw_S at hS
  obtain ⟨c, h1, e1, hS⟩ := hS
  refine X_aload_n rfl rfl rfl ?_
  refine X_aload_n rfl rfl rfl ?_
  refine X_iload rfl rfl rfl ?_
  refine X_iconst (v := 1) rfl rfl (by decide) ?_
  refine X_iadd rfl rfl ?_
  refine X_sld hX rfl rfl hi1 hv1 ?_
  refine X_aload_n rfl rfl rfl ?_
  refine X_iload rfl rfl rfl ?_
  refine X_iconst (v := 2) rfl rfl (by decide) ?_
  refine X_iadd rfl rfl ?_
  refine X_sld hX rfl rfl hi2 hv2 ?_
  refine X_aload_n rfl rfl rfl ?_
  refine X_callH (M' := M_L_power) (nA := 4) (As := [.ref a, .int x1, .int x2, .ref q]) (st := []) rfl rfl (by decide +kernel) rfl rfl rfl (ct_L_power hl e1) hk hs (fun n' => ?_)
  obtain ⟨r, h2, e2, e3, g1, g2, e4, hI⟩ := hS n'
  refine X_rfl (st' := [.int c]) rfl ?_
  refine X_istore rfl rfl rfl rfl ?_
  refine X_aload_n rfl rfl rfl ?_
  refine X_aload_n rfl rfl rfl ?_
  refine X_iload rfl rfl rfl ?_
  refine X_iconst (v := 1) rfl rfl (by decide) ?_
  refine X_iadd rfl rfl ?_
  refine X_sld hX rfl rfl hi1 hv1 ?_
  refine X_aload_n rfl rfl rfl ?_
  refine X_iload rfl rfl rfl ?_
  refine X_iconst (v := 2) rfl rfl (by decide) ?_
  refine X_iadd rfl rfl ?_
  refine X_sld hX rfl rfl hi2 hv2 ?_
  refine X_callV (M' := M_X8_power) (nA := 2) (b := m) (ci := 8) (As := [.int x1, .int x2]) (st := []) rfl rfl (by decide +kernel) rfl rfl rfl ⟨g1, by decide⟩ (ct_X8_power e2) (g_ble (by exact hk)) (g_ble (by exact hs)) ?_
  refine X_rfl (st' := [.int r]) rfl ?_
  refine X_istore rfl rfl rfl rfl ?_
  refine X_aload_n rfl rfl rfl ?_
  refine X_callV (M' := M_X8_thrown) (nA := 0) (b := m) (ci := 8) (As := []) (st := []) rfl rfl (by decide +kernel) rfl rfl rfl ⟨g2, by decide⟩ (ct_X8_thrown e3) (g_ble (by exact hk)) (g_ble (by exact hs)) ?_
  refine X_rfl (st' := [.int c]) rfl ?_
  refine X_iload rfl rfl rfl ?_
  refine X_icmp_eq rfl rfl (fun _ => ?_) (fun cc => absurd rfl cc)
  refine X_iload rfl rfl rfl ?_
  refine X_if_ne rfl rfl (fun hc => ?_) (fun hc => ?_)
  · refine X_goto rfl rfl ?_
    exact X_sub (g_sub_s (g_sub_s (g_sub_s (g_sub_s (g_sub_s (g_sub_n (g_sub_n (g_sub_n (g_sub_n g_sub_0))))))))) (kk _ hI)
  · refine X_aload_n rfl rfl rfl ?_
    refine X_iconst (v := 0) rfl rfl (by decide) ?_
    refine X_lldE rfl rfl (e4 (by simpa using hc)) ?_
    refine X_iload rfl rfl rfl ?_
    refine X_i2l rfl rfl ?_
    refine X_lcmp rfl rfl ?_
    refine X_rfl (st' := [.int 0]) (by simp [lg_cmp_self]) ?_
    refine X_if_eq rfl rfl (fun _ => ?_) (fun cc => absurd rfl cc)
    refine X_goto rfl rfl ?_
    exact X_sub (g_sub_s (g_sub_s (g_sub_s (g_sub_s (g_sub_s (g_sub_n (g_sub_n (g_sub_n (g_sub_n g_sub_0))))))))) (kk _ hI)
set_option maxRecDepth 100000 in
theorem law_cancel (hl : l.stackTraces = false) (hX : g_scr G Q b N xs) (hi1 : vp_in (i + 1) N) (hv1 : xs (i + 1).toNatClampNeg = x1) (hS : lw_S Inv m q (fun r => if r = 0 then 0 else 1) (f_L_cancel h a x1 q) (fun h9 => f_X8_cancel h9 m x1)) (hk : k + 1 ≤ 601024) (hs : n + 6 ≤ 7293034) (kk : ∀ h2, Inv h2 → GX l G M_L_law (g_phL Q Z) (k + 1) (n + 6) 1417 [some (.ref b), some (.ref a), some (.ref m), some (.ref q), some (.int i), none, none, none, none] [] h2 (some ())) : GX l G M_L_law (g_phL Q Z) k n 1327 [some (.ref b), some (.ref a), some (.ref m), some (.ref q), some (.int i), none, none, none, none] [] h (some ()) := by
  unfold lw_S at hS
  obtain ⟨c, h1, e1, hS⟩ := hS
  refine X_aload_n rfl rfl rfl ?_
  refine X_aload_n rfl rfl rfl ?_
  refine X_iload rfl rfl rfl ?_
  refine X_iconst (v := 1) rfl rfl (by decide) ?_
  refine X_iadd rfl rfl ?_
  refine X_sld hX rfl rfl hi1 hv1 ?_
  refine X_aload_n rfl rfl rfl ?_
  refine X_callH (M' := M_L_cancel) (nA := 3) (As := [.ref a, .int x1, .ref q]) (st := []) rfl rfl (by decide +kernel) rfl rfl rfl (ct_L_cancel hl e1) hk hs (fun n' => ?_)
  obtain ⟨r, h2, e2, e3, g1, g2, e4, hI⟩ := hS n'
  refine X_rfl (st' := [.int c]) rfl ?_
  refine X_istore rfl rfl rfl rfl ?_
  refine X_aload_n rfl rfl rfl ?_
  refine X_aload_n rfl rfl rfl ?_
  refine X_iload rfl rfl rfl ?_
  refine X_iconst (v := 1) rfl rfl (by decide) ?_
  refine X_iadd rfl rfl ?_
  refine X_sld hX rfl rfl hi1 hv1 ?_
  refine X_callV (M' := M_X8_cancel) (nA := 1) (b := m) (ci := 8) (As := [.int x1]) (st := []) rfl rfl (by decide +kernel) rfl rfl rfl ⟨g1, by decide⟩ (ct_X8_cancel e2) (g_ble (by exact hk)) (g_ble (by exact hs)) ?_
  refine X_rfl (st' := [.int r]) rfl ?_
  refine X_istore rfl rfl rfl rfl ?_
  refine X_aload_n rfl rfl rfl ?_
  refine X_callV (M' := M_X8_thrown) (nA := 0) (b := m) (ci := 8) (As := []) (st := []) rfl rfl (by decide +kernel) rfl rfl rfl ⟨g2, by decide⟩ (ct_X8_thrown e3) (g_ble (by exact hk)) (g_ble (by exact hs)) ?_
  refine X_rfl (st' := [.int c]) rfl ?_
  refine X_iload rfl rfl rfl ?_
  refine X_icmp_eq rfl rfl (fun _ => ?_) (fun cc => absurd rfl cc)
  refine X_iload rfl rfl rfl ?_
  refine X_if_ne rfl rfl (fun hc => ?_) (fun hc => ?_)
  · refine X_goto rfl rfl ?_
    exact X_sub (g_sub_s (g_sub_s (g_sub_s (g_sub_s (g_sub_s (g_sub_n (g_sub_n (g_sub_n (g_sub_n g_sub_0))))))))) (kk _ hI)
  · refine X_aload_n rfl rfl rfl ?_
    refine X_iconst (v := 0) rfl rfl (by decide) ?_
    refine X_lldE rfl rfl (e4 (by simpa using hc)) ?_
    refine X_iload rfl rfl rfl ?_
    refine X_if_eq rfl rfl (fun hr0 => ?_) (fun hr0 => ?_)
    · refine X_lconst (v := 0) rfl rfl (by decide) ?_
      refine X_rfl (st' := [.long (if r = 0 then 0 else 1), .long (if r = 0 then 0 else 1)]) (by simp [hr0]) ?_
      refine X_lcmp rfl rfl ?_
      refine X_rfl (st' := [.int 0]) (by simp [lg_cmp_self]) ?_
      refine X_if_eq rfl rfl (fun _ => ?_) (fun cc => absurd rfl cc)
      refine X_goto rfl rfl ?_
      exact X_sub (g_sub_s (g_sub_s (g_sub_s (g_sub_s (g_sub_s (g_sub_n (g_sub_n (g_sub_n (g_sub_n g_sub_0))))))))) (kk _ hI)
    · refine X_lconst (v := 1) rfl rfl (by decide) ?_
      refine X_goto rfl rfl ?_
      refine X_rfl (st' := [.long (if r = 0 then 0 else 1), .long (if r = 0 then 0 else 1)]) (by simp [hr0]) ?_
      refine X_lcmp rfl rfl ?_
      refine X_rfl (st' := [.int 0]) (by simp [lg_cmp_self]) ?_
      refine X_if_eq rfl rfl (fun _ => ?_) (fun cc => absurd rfl cc)
      refine X_goto rfl rfl ?_
      exact X_sub (g_sub_s (g_sub_s (g_sub_s (g_sub_s (g_sub_s (g_sub_n (g_sub_n (g_sub_n (g_sub_n g_sub_0))))))))) (kk _ hI)
set_option maxRecDepth 100000 in
theorem law_undo (hl : l.stackTraces = false) (hX : g_scr G Q b N xs) (hS : lw_S0 Inv a m h (f_X7_undo h a ) (fun h9 => f_X8_undo h9 m )) (hk : k + 0 ≤ 601024) (hs : n + 0 ≤ 7293034) (kk : ∀ h2, Inv h2 → GX l G M_L_law (g_phL Q Z) (k + 0) (n + 0) 1417 [some (.ref b), some (.ref a), some (.ref m), some (.ref q), some (.int i), none, none, none, none] [] h2 (some ())) : GX l G M_L_law (g_phL Q Z) k n 1390 [some (.ref b), some (.ref a), some (.ref m), some (.ref q), some (.int i), none, none, none, none] [] h (some ()) := by
  obtain ⟨g0, r, h1, h2, e1, g1, e2, hI⟩ := hS
  refine X_aload_n rfl rfl rfl ?_
  refine X_callV (M' := M_X7_undo) (nA := 0) (b := a) (ci := 7) (As := []) (st := []) rfl rfl (by decide +kernel) rfl rfl rfl ⟨g0, by decide⟩ (ct_X7_undo e1) (g_ble (by exact hk)) (g_ble (by exact hs)) ?_
  refine X_rfl (st' := [.int r]) rfl ?_
  refine X_aload_n rfl rfl rfl ?_
  refine X_callV (M' := M_X8_undo) (nA := 0) (b := m) (ci := 8) (As := []) (st := [.int r]) rfl rfl (by decide +kernel) rfl rfl rfl ⟨g1, by decide⟩ (ct_X8_undo e2) (g_ble (by exact hk)) (g_ble (by exact hs)) ?_
  refine X_rfl (st' := [.int r, .int r]) rfl ?_
  refine X_icmp_eq rfl rfl (fun _ => ?_) (fun cc => absurd rfl cc)
  exact X_sub (g_sub_s (g_sub_s (g_sub_s (g_sub_s (g_sub_s (g_sub_n (g_sub_n (g_sub_n (g_sub_n g_sub_0))))))))) (kk _ hI)
set_option maxRecDepth 100000 in
theorem law_checksum (hl : l.stackTraces = false) (hX : g_scr G Q b N xs) (hS : g_is h a 7 = true ∧ g_is h m 8 = true ∧ ∃ (r : Int64) (h2 : gH), f_X7_checksum h a = some r ∧ f_X8_checksum h m = some (r, h2) ∧ Inv h2) (hk : k + 0 ≤ 601024) (hs : n + 0 ≤ 7293034) (kk : ∀ h2, Inv h2 → GX l G M_L_law (g_phL Q Z) (k + 0) (n + 0) 1417 [some (.ref b), some (.ref a), some (.ref m), some (.ref q), some (.int i), none, none, none, none] [] h2 (some ())) : GX l G M_L_law (g_phL Q Z) k n 1403 [some (.ref b), some (.ref a), some (.ref m), some (.ref q), some (.int i), none, none, none, none] [] h (some ()) := by
  obtain ⟨g0, g1, r, h2, e1, e2, hI⟩ := hS
  refine X_aload_n rfl rfl rfl ?_
  refine X_callV (M' := M_X7_checksum) (nA := 0) (b := a) (ci := 7) (As := []) (st := []) rfl rfl (by decide +kernel) rfl rfl rfl ⟨g0, by decide⟩ (ct_X7_checksum e1) (g_ble (by exact hk)) (g_ble (by exact hs)) ?_
  refine X_rfl (st' := [.long r]) rfl ?_
  refine X_aload_n rfl rfl rfl ?_
  refine X_callV (M' := M_X8_checksum) (nA := 0) (b := m) (ci := 8) (As := []) (st := [.long r]) rfl rfl (by decide +kernel) rfl rfl rfl ⟨g1, by decide⟩ (ct_X8_checksum e2) (g_ble (by exact hk)) (g_ble (by exact hs)) ?_
  refine X_rfl (st' := [.long r, .long r]) rfl ?_
  refine X_lcmp rfl rfl ?_
  refine X_rfl (st' := [.int 0]) (by simp [lg_cmp_self]) ?_
  refine X_if_eq rfl rfl (fun _ => ?_) (fun cc => absurd rfl cc)
  exact X_sub (g_sub_s (g_sub_s (g_sub_s (g_sub_s (g_sub_s (g_sub_n (g_sub_n (g_sub_n (g_sub_n g_sub_0))))))))) (kk _ hI)
end LAWC
