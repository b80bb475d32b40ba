/-! The program's tables for the abstract machine, written by program out of the Statement's bytes and words. -/
def xm_as {α : Type} (ix : Nat) : List (Nat × α) → Option α
  | [] => none
  | q :: r => bif Nat.beq q.1 ix then some q.2 else xm_as ix r
def xm_nth {α : Type} (d : α) : Nat → List α → α
  | _, [] => d
  | 0, q :: _ => q
  | n + 1, _ :: r => xm_nth d n r
-- sections of lists of methods: sixteen to a run
def xm_nn {α : Type} (d : α) (y : Nat) (l : List (List α)) : α := xm_nth d (y % 16) (xm_nth [] (y / 16) l)
def tb_0 : List (Nat × List xm_I) := [(16, [(0, .new 7, 3), (3, .dup, 4), (4, .invokespecial 9, 7), (7, .astore_n 1, 8), (8, .new 10, 11), (11, .dup, 12), (12, .invokespecial 12, 15), (15, .astore_n 2, 16)]), (25, [(16, .iconst 0, 17), (17, .istore_n 3, 18), (18, .iload_n 3, 19), (19, .aload_n 0, 20), (20, .arraylength, 21), (21, .bipush 8, 23), (23, .isub, 24), (24, .if_icmp .gt 454, 27)]), (90, [(27, .aload_n 0, 28), (28, .iload_n 3, 29), (29, .iaload, 30), (30, .bipush 15, 32), (32, .iand, 33), (33, .tableswitch 439 0 9 #[55, 98, 121, 134, 261, 294, 317, 350, 373, 406], 88), (88, .aload_n 1, 89), (89, .aload_n 0, 90)]), (98, [(90, .iload_n 3, 91), (91, .iconst 1, 92), (92, .iadd, 93), (93, .iaload, 94), (94, .aload_n 0, 95), (95, .iload_n 3, 96), (96, .iconst 2, 97), (97, .iadd, 98)]), (108, [(98, .iaload, 99), (99, .aload_n 0, 100), (100, .iload_n 3, 101), (101, .iconst 3, 102), (102, .iadd, 103), (103, .iaload, 104), (104, .invokevirtual 13, 107), (107, .aload_n 2, 108)]), (116, [(108, .aload_n 0, 109), (109, .iload_n 3, 110), (110, .iconst 1, 111), (111, .iadd, 112), (112, .iaload, 113), (113, .aload_n 0, 114), (114, .iload_n 3, 115), (115, .iconst 2, 116)]), (124, [(116, .iadd, 117), (117, .iaload, 118), (118, .aload_n 0, 119), (119, .iload_n 3, 120), (120, .iconst 3, 121), (121, .iadd, 122), (122, .iaload, 123), (123, .invokevirtual 17, 126)]), (136, [(126, .if_icmp .eq 346, 129), (129, .iconst 0, 130), (130, .ireturn, 131), (131, .aload_n 1, 132), (132, .aload_n 0, 133), (133, .iload_n 3, 134), (134, .iconst 1, 135), (135, .iadd, 136)]), (146, [(136, .iaload, 137), (137, .invokevirtual 18, 140), (140, .aload_n 2, 141), (141, .aload_n 0, 142), (142, .iload_n 3, 143), (143, .iconst 1, 144), (144, .iadd, 145), (145, .iaload, 146)]), (160, [(146, .invokevirtual 22, 149), (149, .if_icmp .eq 323, 152), (152, .iconst 0, 153), (153, .ireturn, 154), (154, .aload_n 1, 155), (155, .invokevirtual 23, 158), (158, .aload_n 2, 159), (159, .invokevirtual 27, 162)]), (172, [(162, .if_icmp .eq 310, 165), (165, .iconst 0, 166), (166, .ireturn, 167), (167, .aload_n 1, 168), (168, .aload_n 0, 169), (169, .iload_n 3, 170), (170, .iconst 1, 171), (171, .iadd, 172)]), (180, [(172, .iaload, 173), (173, .aload_n 0, 174), (174, .iload_n 3, 175), (175, .iconst 2, 176), (176, .iadd, 177), (177, .iaload, 178), (178, .i2l, 179), (179, .bipush 32, 181)]), (189, [(181, .lshl, 182), (182, .aload_n 0, 183), (183, .iload_n 3, 184), (184, .iconst 3, 185), (185, .iadd, 186), (186, .iaload, 187), (187, .i2l, 188), (188, .ldc2_w 28, 191)]), (199, [(191, .land, 192), (192, .lor, 193), (193, .aload_n 0, 194), (194, .iload_n 3, 195), (195, .iconst 4, 196), (196, .iadd, 197), (197, .iaload, 198), (198, .aload_n 0, 199)]), (208, [(199, .iload_n 3, 200), (200, .iconst 5, 201), (201, .iadd, 202), (202, .iaload, 203), (203, .i2l, 204), (204, .bipush 32, 206), (206, .lshl, 207), (207, .aload_n 0, 208)]), (219, [(208, .iload_n 3, 209), (209, .bipush 6, 211), (211, .iadd, 212), (212, .iaload, 213), (213, .i2l, 214), (214, .ldc2_w 28, 217), (217, .land, 218), (218, .lor, 219)]), (230, [(219, .aload_n 0, 220), (220, .iload_n 3, 221), (221, .bipush 7, 223), (223, .iadd, 224), (224, .iaload, 225), (225, .invokevirtual 30, 228), (228, .aload_n 2, 229), (229, .aload_n 0, 230)]), (238, [(230, .iload_n 3, 231), (231, .iconst 1, 232), (232, .iadd, 233), (233, .iaload, 234), (234, .aload_n 0, 235), (235, .iload_n 3, 236), (236, .iconst 2, 237), (237, .iadd, 238)]), (247, [(238, .iaload, 239), (239, .i2l, 240), (240, .bipush 32, 242), (242, .lshl, 243), (243, .aload_n 0, 244), (244, .iload_n 3, 245), (245, .iconst 3, 246), (246, .iadd, 247)]), (257, [(247, .iaload, 248), (248, .i2l, 249), (249, .ldc2_w 28, 252), (252, .land, 253), (253, .lor, 254), (254, .aload_n 0, 255), (255, .iload_n 3, 256), (256, .iconst 4, 257)]), (265, [(257, .iadd, 258), (258, .iaload, 259), (259, .aload_n 0, 260), (260, .iload_n 3, 261), (261, .iconst 5, 262), (262, .iadd, 263), (263, .iaload, 264), (264, .i2l, 265)]), (275, [(265, .bipush 32, 267), (267, .lshl, 268), (268, .aload_n 0, 269), (269, .iload_n 3, 270), (270, .bipush 6, 272), (272, .iadd, 273), (273, .iaload, 274), (274, .i2l, 275)]), (286, [(275, .ldc2_w 28, 278), (278, .land, 279), (279, .lor, 280), (280, .aload_n 0, 281), (281, .iload_n 3, 282), (282, .bipush 7, 284), (284, .iadd, 285), (285, .iaload, 286)]), (298, [(286, .invokevirtual 34, 289), (289, .if_icmp .eq 183, 292), (292, .iconst 0, 293), (293, .ireturn, 294), (294, .aload_n 1, 295), (295, .aload_n 0, 296), (296, .iload_n 3, 297), (297, .iconst 1, 298)]), (306, [(298, .iadd, 299), (299, .iaload, 300), (300, .aload_n 0, 301), (301, .iload_n 3, 302), (302, .iconst 2, 303), (303, .iadd, 304), (304, .iaload, 305), (305, .invokevirtual 35, 308)]), (316, [(308, .aload_n 2, 309), (309, .aload_n 0, 310), (310, .iload_n 3, 311), (311, .iconst 1, 312), (312, .iadd, 313), (313, .iaload, 314), (314, .aload_n 0, 315), (315, .iload_n 3, 316)]), (328, [(316, .iconst 2, 317), (317, .iadd, 318), (318, .iaload, 319), (319, .invokevirtual 39, 322), (322, .if_icmp .eq 150, 325), (325, .iconst 0, 326), (326, .ireturn, 327), (327, .aload_n 1, 328)]), (338, [(328, .aload_n 0, 329), (329, .iload_n 3, 330), (330, .iconst 1, 331), (331, .iadd, 332), (332, .iaload, 333), (333, .invokevirtual 40, 336), (336, .aload_n 2, 337), (337, .aload_n 0, 338)]), (350, [(338, .iload_n 3, 339), (339, .iconst 1, 340), (340, .iadd, 341), (341, .iaload, 342), (342, .invokevirtual 43, 345), (345, .if_icmp .eq 127, 348), (348, .iconst 0, 349), (349, .ireturn, 350)]), (358, [(350, .aload_n 1, 351), (351, .aload_n 0, 352), (352, .iload_n 3, 353), (353, .iconst 1, 354), (354, .iadd, 355), (355, .iaload, 356), (356, .aload_n 0, 357), (357, .iload_n 3, 358)]), (368, [(358, .iconst 2, 359), (359, .iadd, 360), (360, .iaload, 361), (361, .invokevirtual 44, 364), (364, .aload_n 2, 365), (365, .aload_n 0, 366), (366, .iload_n 3, 367), (367, .iconst 1, 368)]), (376, [(368, .iadd, 369), (369, .iaload, 370), (370, .aload_n 0, 371), (371, .iload_n 3, 372), (372, .iconst 2, 373), (373, .iadd, 374), (374, .iaload, 375), (375, .invokevirtual 47, 378)]), (388, [(378, .if_icmp .eq 94, 381), (381, .iconst 0, 382), (382, .ireturn, 383), (383, .aload_n 1, 384), (384, .aload_n 0, 385), (385, .iload_n 3, 386), (386, .iconst 1, 387), (387, .iadd, 388)]), (398, [(388, .iaload, 389), (389, .invokevirtual 48, 392), (392, .aload_n 2, 393), (393, .aload_n 0, 394), (394, .iload_n 3, 395), (395, .iconst 1, 396), (396, .iadd, 397), (397, .iaload, 398)]), (410, [(398, .invokevirtual 51, 401), (401, .if_icmp .eq 71, 404), (404, .iconst 0, 405), (405, .ireturn, 406), (406, .aload_n 1, 407), (407, .aload_n 0, 408), (408, .iload_n 3, 409), (409, .iconst 1, 410)]), (418, [(410, .iadd, 411), (411, .iaload, 412), (412, .aload_n 0, 413), (413, .iload_n 3, 414), (414, .iconst 2, 415), (415, .iadd, 416), (416, .iaload, 417), (417, .invokevirtual 52, 420)]), (428, [(420, .aload_n 2, 421), (421, .aload_n 0, 422), (422, .iload_n 3, 423), (423, .iconst 1, 424), (424, .iadd, 425), (425, .iaload, 426), (426, .aload_n 0, 427), (427, .iload_n 3, 428)]), (440, [(428, .iconst 2, 429), (429, .iadd, 430), (430, .iaload, 431), (431, .invokevirtual 55, 434), (434, .if_icmp .eq 38, 437), (437, .iconst 0, 438), (438, .ireturn, 439), (439, .aload_n 1, 440)]), (448, [(440, .aload_n 0, 441), (441, .iload_n 3, 442), (442, .iconst 1, 443), (443, .iadd, 444), (444, .iaload, 445), (445, .aload_n 0, 446), (446, .iload_n 3, 447), (447, .iconst 2, 448)]), (458, [(448, .iadd, 449), (449, .iaload, 450), (450, .invokevirtual 56, 453), (453, .aload_n 2, 454), (454, .aload_n 0, 455), (455, .iload_n 3, 456), (456, .iconst 1, 457), (457, .iadd, 458)]), (468, [(458, .iaload, 459), (459, .aload_n 0, 460), (460, .iload_n 3, 461), (461, .iconst 2, 462), (462, .iadd, 463), (463, .iaload, 464), (464, .invokevirtual 59, 467), (467, .if_icmp .eq 5, 470)]), (480, [(470, .iconst 0, 471), (471, .ireturn, 472), (472, .iinc 3 8, 475), (475, .goto (-457), 478), (478, .iconst 1, 479), (479, .ireturn, 480)])]
def tb_1 : List (Nat × List xm_I) := [(16, [(0, .aload_n 0, 1), (1, .invokespecial 1, 4), (4, .aload_n 0, 5), (5, .new 7, 8), (8, .dup, 9), (9, .invokespecial 9, 12), (12, .putfield 10, 15), (15, .aload_n 0, 16)]), (32, [(16, .new 16, 19), (19, .dup, 20), (20, .aload_n 0, 21), (21, .getfield 10, 24), (24, .invokespecial 18, 27), (27, .putfield 21, 30), (30, .aload_n 0, 31), (31, .new 25, 34)]), (50, [(34, .dup, 35), (35, .aload_n 0, 36), (36, .getfield 10, 39), (39, .invokespecial 27, 42), (42, .putfield 28, 45), (45, .aload_n 0, 46), (46, .new 32, 49), (49, .dup, 50)]), (66, [(50, .aload_n 0, 51), (51, .getfield 10, 54), (54, .aload_n 0, 55), (55, .getfield 28, 58), (58, .invokespecial 34, 61), (61, .putfield 37, 64), (64, .aload_n 0, 65), (65, .new 41, 68)]), (84, [(68, .dup, 69), (69, .aload_n 0, 70), (70, .getfield 37, 73), (73, .invokespecial 43, 76), (76, .putfield 46, 79), (79, .aload_n 0, 80), (80, .new 50, 83), (83, .dup, 84)]), (95, [(84, .aload_n 0, 85), (85, .getfield 46, 88), (88, .invokespecial 52, 91), (91, .putfield 55, 94), (94, .return_, 95)])]
def tb_2 : List (Nat × List xm_I) := [(14, [(0, .aload_n 0, 1), (1, .invokespecial 3, 4), (4, .aload_n 0, 5), (5, .bipush 28, 7), (7, .newarray .int, 9), (9, .putfield 9, 12), (12, .aload_n 0, 13), (13, .bipush 28, 15)]), (30, [(15, .newarray .int, 17), (17, .putfield 15, 20), (20, .aload_n 0, 21), (21, .bipush 28, 23), (23, .newarray .int, 25), (25, .putfield 18, 28), (28, .aload_n 0, 29), (29, .bipush 28, 31)]), (46, [(31, .newarray .int, 33), (33, .putfield 21, 36), (36, .aload_n 0, 37), (37, .bipush 28, 39), (39, .newarray .int, 41), (41, .putfield 24, 44), (44, .aload_n 0, 45), (45, .getfield 24, 48)]), (53, [(48, .iconst (-1), 49), (49, .invokestatic 27, 52), (52, .return_, 53)])]
def tb_3 : List (Nat × List xm_I) := [(8, [(0, .iconst 0, 1), (1, .istore_n 2, 2), (2, .aload_n 0, 3), (3, .arraylength, 4), (4, .istore_n 3, 5), (5, .iload_n 2, 6), (6, .iload_n 3, 7), (7, .if_icmp .ge 13, 10)]), (21, [(10, .aload_n 0, 11), (11, .iload_n 2, 12), (12, .iload_n 1, 13), (13, .iastore, 14), (14, .iinc 2 1, 17), (17, .goto (-12), 20), (20, .return_, 21)])]
def tb_4 : List (Nat × List xm_I) := [(14, [(0, .aload_n 0, 1), (1, .invokespecial 3, 4), (4, .aload_n 0, 5), (5, .bipush 16, 7), (7, .newarray .int, 9), (9, .putfield 9, 12), (12, .aload_n 0, 13), (13, .bipush 28, 15)]), (26, [(15, .newarray .int, 17), (17, .putfield 15, 20), (20, .aload_n 0, 21), (21, .aload_n 1, 22), (22, .putfield 18, 25), (25, .return_, 26)])]
def tb_5 : List (Nat × List xm_I) := [(15, [(0, .aload_n 0, 1), (1, .invokespecial 3, 4), (4, .aload_n 0, 5), (5, .sipush 448, 8), (8, .newarray .int, 10), (10, .putfield 9, 13), (13, .aload_n 0, 14), (14, .sipush 448, 17)]), (33, [(17, .newarray .int, 19), (19, .putfield 15, 22), (22, .aload_n 0, 23), (23, .sipush 512, 26), (26, .newarray .long, 28), (28, .putfield 18, 31), (31, .aload_n 0, 32), (32, .new 22, 35)]), (51, [(35, .dup, 36), (36, .invokespecial 24, 39), (39, .putfield 25, 42), (42, .aload_n 0, 43), (43, .new 22, 46), (46, .dup, 47), (47, .invokespecial 24, 50), (50, .putfield 29, 53)]), (67, [(53, .aload_n 0, 54), (54, .new 22, 57), (57, .dup, 58), (58, .invokespecial 24, 61), (61, .putfield 32, 64), (64, .aload_n 0, 65), (65, .aload_n 1, 66), (66, .putfield 35, 69)]), (78, [(69, .aload_n 0, 70), (70, .getfield 15, 73), (73, .iconst (-1), 74), (74, .invokestatic 39, 77), (77, .return_, 78)])]
def tb_6 : List (Nat × List xm_I) := [(13, [(0, .aload_n 0, 1), (1, .invokespecial 3, 4), (4, .aload_n 0, 5), (5, .bipush 60, 7), (7, .newarray .long, 9), (9, .putfield 9, 12), (12, .return_, 13)])]
def tb_7 : List (Nat × List xm_I) := [(14, [(0, .aload_n 0, 1), (1, .invokespecial 3, 4), (4, .aload_n 0, 5), (5, .bipush 28, 7), (7, .newarray .int, 9), (9, .putfield 9, 12), (12, .aload_n 0, 13), (13, .bipush 16, 15)]), (30, [(15, .newarray .int, 17), (17, .putfield 15, 20), (20, .aload_n 0, 21), (21, .bipush 16, 23), (23, .newarray .int, 25), (25, .putfield 18, 28), (28, .aload_n 0, 29), (29, .sipush 256, 32)]), (48, [(32, .newarray .int, 34), (34, .putfield 21, 37), (37, .aload_n 0, 38), (38, .sipush 256, 41), (41, .newarray .int, 43), (43, .putfield 24, 46), (46, .aload_n 0, 47), (47, .aload_n 1, 48)]), (57, [(48, .putfield 27, 51), (51, .aload_n 0, 52), (52, .aload_n 2, 53), (53, .putfield 31, 56), (56, .return_, 57)])]
def tb_8 : List (Nat × List xm_I) := [(14, [(0, .aload_n 0, 1), (1, .invokespecial 3, 4), (4, .aload_n 0, 5), (5, .bipush 100, 7), (7, .newarray .long, 9), (9, .putfield 9, 12), (12, .aload_n 0, 13), (13, .sipush 1600, 16)]), (31, [(16, .newarray .int, 18), (18, .putfield 15, 21), (21, .aload_n 0, 22), (22, .bipush 100, 24), (24, .newarray .boolean, 26), (26, .putfield 19, 29), (29, .aload_n 0, 30), (30, .aload_n 1, 31)]), (35, [(31, .putfield 23, 34), (34, .return_, 35)])]
def tb_9 : List (Nat × List xm_I) := [(13, [(0, .aload_n 0, 1), (1, .invokespecial 3, 4), (4, .aload_n 0, 5), (5, .iconst 0, 6), (6, .putfield 9, 9), (9, .aload_n 0, 10), (10, .bipush 100, 12), (12, .newarray .int, 14)]), (30, [(14, .putfield 15, 17), (17, .aload_n 0, 18), (18, .bipush 100, 20), (20, .newarray .int, 22), (22, .putfield 19, 25), (25, .aload_n 0, 26), (26, .sipush 400, 29), (29, .newarray .int, 31)]), (46, [(31, .putfield 22, 34), (34, .aload_n 0, 35), (35, .sipush 400, 38), (38, .newarray .int, 40), (40, .putfield 25, 43), (43, .aload_n 0, 44), (44, .aload_n 1, 45), (45, .putfield 28, 48)]), (49, [(48, .return_, 49)])]
def tb_10 : List (Nat × List xm_I) := [(14, [(0, .aload_n 0, 1), (1, .getfield 10, 4), (4, .iload_n 1, 5), (5, .iload_n 2, 6), (6, .iload_n 3, 7), (7, .invokevirtual 59, 10), (10, .ifCond .ne 5, 13), (13, .iconst (-1), 14)]), (28, [(14, .ireturn, 15), (15, .aload_n 0, 16), (16, .getfield 10, 19), (19, .iload_n 1, 20), (20, .iload_n 1, 21), (21, .invokestatic 63, 24), (24, .ifCond .eq 7, 27), (27, .iload_n 2, 28)]), (44, [(28, .goto 4, 31), (31, .iconst 0, 32), (32, .iload_n 1, 33), (33, .invokestatic 67, 36), (36, .ifCond .eq 7, 39), (39, .iload_n 3, 40), (40, .goto 4, 43), (43, .iconst 0, 44)]), (48, [(44, .invokevirtual 70, 47), (47, .ireturn, 48)])]
def tb_11 : List (Nat × List xm_I) := [(12, [(0, .iload_n 1, 1), (1, .ifCond .eq 8, 4), (4, .iload_n 1, 5), (5, .iconst 1, 6), (6, .if_icmp .ne 5, 9), (9, .iconst 1, 10), (10, .ireturn, 11), (11, .iload_n 1, 12)]), (26, [(12, .iconst 2, 13), (13, .if_icmp .eq 8, 16), (16, .iload_n 1, 17), (17, .iconst 3, 18), (18, .if_icmp .ne 18, 21), (21, .iload_n 2, 22), (22, .ifCond .lt 12, 25), (25, .iload_n 2, 26)]), (38, [(26, .iconst 4, 27), (27, .if_icmp .ge 7, 30), (30, .iconst 1, 31), (31, .goto 4, 34), (34, .iconst 0, 35), (35, .ireturn, 36), (36, .iload_n 1, 37), (37, .bipush 6, 39)]), (53, [(39, .if_icmp .ne 9, 42), (42, .aload_n 0, 43), (43, .iload_n 2, 44), (44, .invokevirtual 41, 47), (47, .ireturn, 48), (48, .iload_n 1, 49), (49, .invokestatic 37, 52), (52, .ifCond .eq 23, 55)]), (69, [(55, .aload_n 0, 56), (56, .iload_n 2, 57), (57, .invokevirtual 41, 60), (60, .ifCond .eq 15, 63), (63, .aload_n 0, 64), (64, .iload_n 3, 65), (65, .invokevirtual 41, 68), (68, .ifCond .eq 7, 71)]), (77, [(71, .iconst 1, 72), (72, .goto 4, 75), (75, .iconst 0, 76), (76, .ireturn, 77)])]
def tb_12 : List (Nat × List xm_I) := [(14, [(0, .iload_n 1, 1), (1, .ifCond .lt 15, 4), (4, .iload_n 1, 5), (5, .aload_n 0, 6), (6, .getfield 33, 9), (9, .if_icmp .ge 7, 12), (12, .iconst 1, 13), (13, .goto 4, 16)]), (18, [(16, .iconst 0, 17), (17, .ireturn, 18)])]
def tb_13 : List (Nat × List xm_I) := [(12, [(0, .iload_n 0, 1), (1, .iconst 4, 2), (2, .if_icmp .eq 20, 5), (5, .iload_n 0, 6), (6, .iconst 5, 7), (7, .if_icmp .eq 15, 10), (10, .iload_n 0, 11), (11, .bipush 7, 13)]), (28, [(13, .if_icmp .eq 9, 16), (16, .iload_n 0, 17), (17, .bipush 8, 19), (19, .if_icmp .ne 7, 22), (22, .iconst 1, 23), (23, .goto 4, 26), (26, .iconst 0, 27), (27, .ireturn, 28)])]
def tb_14 : List (Nat × List xm_I) := [(14, [(0, .iload_n 0, 1), (1, .ifCond .eq 12, 4), (4, .iload_n 0, 5), (5, .iconst 1, 6), (6, .if_icmp .eq 7, 9), (9, .iconst 1, 10), (10, .goto 4, 13), (13, .iconst 0, 14)]), (15, [(14, .ireturn, 15)])]
def tb_15 : List (Nat × List xm_I) := [(5, [(0, .iload_n 0, 1), (1, .invokestatic 37, 4), (4, .ireturn, 5)])]
def tb_16 : List (Nat × List xm_I) := [(14, [(0, .iconst 0, 1), (1, .istore 4, 3), (3, .iload 4, 5), (5, .aload_n 0, 6), (6, .getfield 33, 9), (9, .if_icmp .ge 45, 12), (12, .aload_n 0, 13), (13, .getfield 9, 16)]), (30, [(16, .iload 4, 18), (18, .iaload, 19), (19, .iload_n 1, 20), (20, .if_icmp .ne 28, 23), (23, .aload_n 0, 24), (24, .getfield 15, 27), (27, .iload 4, 29), (29, .iaload, 30)]), (43, [(30, .iload_n 2, 31), (31, .if_icmp .ne 17, 34), (34, .aload_n 0, 35), (35, .getfield 18, 38), (38, .iload 4, 40), (40, .iaload, 41), (41, .iload_n 3, 42), (42, .if_icmp .ne 6, 45)]), (61, [(45, .iload 4, 47), (47, .ireturn, 48), (48, .iinc 4 1, 51), (51, .goto (-48), 54), (54, .aload_n 0, 55), (55, .getfield 33, 58), (58, .bipush 28, 60), (60, .if_icmp .lt 6, 63)]), (77, [(63, .bipush (-2), 65), (65, .ireturn, 66), (66, .aload_n 0, 67), (67, .getfield 33, 70), (70, .istore 4, 72), (72, .aload_n 0, 73), (73, .getfield 9, 76), (76, .iload 4, 78)]), (89, [(78, .iload_n 1, 79), (79, .iastore, 80), (80, .aload_n 0, 81), (81, .getfield 15, 84), (84, .iload 4, 86), (86, .iload_n 2, 87), (87, .iastore, 88), (88, .aload_n 0, 89)]), (103, [(89, .getfield 18, 92), (92, .iload 4, 94), (94, .iload_n 3, 95), (95, .iastore, 96), (96, .aload_n 0, 97), (97, .getfield 21, 100), (100, .iload 4, 102), (102, .iconst 1, 103)]), (116, [(103, .iload 4, 105), (105, .ishl, 106), (106, .iastore, 107), (107, .iload_n 1, 108), (108, .invokestatic 44, 111), (111, .ifCond .eq 19, 114), (114, .aload_n 0, 115), (115, .getfield 21, 118)]), (129, [(118, .iload 4, 120), (120, .dup2, 121), (121, .iaload, 122), (122, .aload_n 0, 123), (123, .getfield 21, 126), (126, .iload_n 2, 127), (127, .iaload, 128), (128, .ior, 129)]), (144, [(129, .iastore, 130), (130, .iload_n 1, 131), (131, .invokestatic 37, 134), (134, .ifCond .eq 19, 137), (137, .aload_n 0, 138), (138, .getfield 21, 141), (141, .iload 4, 143), (143, .dup2, 144)]), (154, [(144, .iaload, 145), (145, .aload_n 0, 146), (146, .getfield 21, 149), (149, .iload_n 3, 150), (150, .iaload, 151), (151, .ior, 152), (152, .iastore, 153), (153, .aload_n 0, 154)]), (166, [(154, .dup, 155), (155, .getfield 33, 158), (158, .iconst 1, 159), (159, .iadd, 160), (160, .putfield 33, 163), (163, .iload 4, 165), (165, .ireturn, 166)])]
def tb_17 : List (Nat × List xm_I) := [(15, [(0, .iload_n 0, 1), (1, .bipush 6, 3), (3, .if_icmp .eq 10, 6), (6, .iload_n 0, 7), (7, .invokestatic 37, 10), (10, .ifCond .eq 7, 13), (13, .iconst 1, 14), (14, .goto 4, 17)]), (19, [(17, .iconst 0, 18), (18, .ireturn, 19)])]
def tb_18 : List (Nat × List xm_I) := [(16, [(0, .aload_n 0, 1), (1, .getfield 10, 4), (4, .iload_n 1, 5), (5, .invokevirtual 74, 8), (8, .ifCond .eq 15, 11), (11, .aload_n 0, 12), (12, .getfield 10, 15), (15, .iload_n 1, 16)]), (25, [(16, .iconst 0, 17), (17, .invokevirtual 77, 20), (20, .goto 4, 23), (23, .iconst (-1), 24), (24, .ireturn, 25)])]
def tb_19 : List (Nat × List xm_I) := [(14, [(0, .iload_n 2, 1), (1, .bipush 28, 3), (3, .if_icmp .lt 6, 6), (6, .bipush (-2), 8), (8, .ireturn, 9), (9, .aload_n 0, 10), (10, .getfield 24, 13), (13, .iload_n 1, 14)]), (26, [(14, .iaload, 15), (15, .iconst (-1), 16), (16, .if_icmp .eq 10, 19), (19, .aload_n 0, 20), (20, .getfield 24, 23), (23, .iload_n 1, 24), (24, .iaload, 25), (25, .ireturn, 26)]), (38, [(26, .aload_n 0, 27), (27, .getfield 9, 30), (30, .iload_n 1, 31), (31, .iaload, 32), (32, .istore_n 3, 33), (33, .aload_n 0, 34), (34, .getfield 15, 37), (37, .iload_n 1, 38)]), (50, [(38, .iaload, 39), (39, .istore 4, 41), (41, .aload_n 0, 42), (42, .getfield 18, 45), (45, .iload_n 1, 46), (46, .iaload, 47), (47, .istore 5, 49), (49, .iload_n 3, 50)]), (63, [(50, .invokestatic 44, 53), (53, .ifCond .eq 14, 56), (56, .aload_n 0, 57), (57, .iload 4, 59), (59, .iload_n 2, 60), (60, .iconst 1, 61), (61, .iadd, 62), (62, .invokevirtual 47, 65)]), (82, [(65, .istore 4, 67), (67, .iload_n 3, 68), (68, .invokestatic 37, 71), (71, .ifCond .eq 21, 74), (74, .iload 4, 76), (76, .bipush (-2), 78), (78, .if_icmp .eq 14, 81), (81, .aload_n 0, 82)]), (95, [(82, .iload 5, 84), (84, .iload_n 2, 85), (85, .iconst 1, 86), (86, .iadd, 87), (87, .invokevirtual 47, 90), (90, .istore 5, 92), (92, .iload 4, 94), (94, .bipush (-2), 96)]), (111, [(96, .if_icmp .eq 10, 99), (99, .iload 5, 101), (101, .bipush (-2), 103), (103, .if_icmp .ne 6, 106), (106, .bipush (-2), 108), (108, .ireturn, 109), (109, .aload_n 0, 110), (110, .getstatic 51, 113)]), (127, [(113, .iload_n 3, 114), (114, .iaload, 115), (115, .iload 4, 117), (117, .iload 5, 119), (119, .invokevirtual 54, 122), (122, .istore 6, 124), (124, .iload 6, 126), (126, .bipush (-2), 128)]), (142, [(128, .if_icmp .eq 11, 131), (131, .aload_n 0, 132), (132, .getfield 24, 135), (135, .iload_n 1, 136), (136, .iload 6, 138), (138, .iastore, 139), (139, .iload 6, 141), (141, .ireturn, 142)])]
def tb_20 : List (Nat × List xm_I) := [(8, [(0, .aload_n 0, 1), (1, .getfield 10, 4), (4, .getfield 81, 7), (7, .ireturn, 8)])]
def tb_21 : List (Nat × List xm_I) := [(17, [(0, .aload_n 0, 1), (1, .getfield 10, 4), (4, .iload_n 1, 5), (5, .invokevirtual 74, 8), (8, .ifCond .eq 28, 11), (11, .iload 4, 13), (13, .ifCond .lt 23, 16), (16, .iload 4, 18)]), (34, [(18, .bipush 8, 20), (20, .if_icmp .gt 16, 23), (23, .iload 7, 25), (25, .iconst 1, 26), (26, .if_icmp .lt 10, 29), (29, .iload 7, 31), (31, .bipush 8, 33), (33, .if_icmp .le 5, 36)]), (48, [(36, .iconst (-1), 37), (37, .ireturn, 38), (38, .aload_n 0, 39), (39, .getfield 21, 42), (42, .lload_n 2, 43), (43, .iload 4, 45), (45, .lload 5, 47), (47, .iload 7, 49)]), (65, [(49, .invokevirtual 85, 52), (52, .aload_n 0, 53), (53, .getfield 21, 56), (56, .iload_n 1, 57), (57, .invokevirtual 89, 60), (60, .ifCond .eq 7, 63), (63, .iconst 1, 64), (64, .goto 4, 67)]), (69, [(67, .iconst 0, 68), (68, .ireturn, 69)])]
def tb_22 : List (Nat × List xm_I) := [(14, [(0, .iconst 0, 1), (1, .istore 7, 3), (3, .iload 7, 5), (5, .iload_n 3, 6), (6, .if_icmp .ge 26, 9), (9, .aload_n 0, 10), (10, .getfield 9, 13), (13, .iload 7, 15)]), (25, [(15, .lload_n 1, 16), (16, .iconst 4, 17), (17, .iload 7, 19), (19, .imul, 20), (20, .lshr, 21), (21, .l2i, 22), (22, .bipush 15, 24), (24, .iand, 25)]), (40, [(25, .iastore, 26), (26, .iinc 7 1, 29), (29, .goto (-26), 32), (32, .iconst 0, 33), (33, .istore 7, 35), (35, .iload 7, 37), (37, .iload 6, 39), (39, .if_icmp .ge 29, 42)]), (54, [(42, .aload_n 0, 43), (43, .getfield 9, 46), (46, .iload_n 3, 47), (47, .iload 7, 49), (49, .iadd, 50), (50, .lload 4, 52), (52, .iconst 4, 53), (53, .iload 7, 55)]), (66, [(55, .imul, 56), (56, .lshr, 57), (57, .l2i, 58), (58, .bipush 15, 60), (60, .iand, 61), (61, .iastore, 62), (62, .iinc 7 1, 65), (65, .goto (-30), 68)]), (79, [(68, .aload_n 0, 69), (69, .iload_n 3, 70), (70, .iload 6, 72), (72, .iadd, 73), (73, .putfield 22, 76), (76, .aload_n 0, 77), (77, .iload_n 3, 78), (78, .putfield 26, 81)]), (82, [(81, .return_, 82)])]
def tb_23 : List (Nat × List xm_I) := [(12, [(0, .iconst 0, 1), (1, .istore_n 2, 2), (2, .iload_n 2, 3), (3, .iload_n 1, 4), (4, .if_icmp .gt 32, 7), (7, .aload_n 0, 8), (8, .getfield 18, 11), (11, .iload_n 2, 12)]), (26, [(12, .iload_n 1, 13), (13, .invokevirtual 29, 16), (16, .ifCond .eq 14, 19), (19, .aload_n 0, 20), (20, .getfield 15, 23), (23, .iload_n 2, 24), (24, .aload_n 0, 25), (25, .iload_n 2, 26)]), (42, [(26, .invokevirtual 35, 29), (29, .iastore, 30), (30, .iinc 2 1, 33), (33, .goto (-31), 36), (36, .aload_n 0, 37), (37, .getfield 15, 40), (40, .iload_n 1, 41), (41, .iaload, 42)]), (53, [(42, .iconst 1, 43), (43, .iand, 44), (44, .ifCond .eq 7, 47), (47, .iconst 1, 48), (48, .goto 4, 51), (51, .iconst 0, 52), (52, .ireturn, 53)])]
def tb_24 : List (Nat × List xm_I) := [(10, [(0, .aload_n 0, 1), (1, .getfield 21, 4), (4, .iload_n 2, 5), (5, .iaload, 6), (6, .iload_n 1, 7), (7, .ishr, 8), (8, .iconst 1, 9), (9, .iand, 10)]), (19, [(10, .ifCond .eq 7, 13), (13, .iconst 1, 14), (14, .goto 4, 17), (17, .iconst 0, 18), (18, .ireturn, 19)])]
def tb_25 : List (Nat × List xm_I) := [(12, [(0, .aload_n 0, 1), (1, .getfield 18, 4), (4, .getfield 39, 7), (7, .iload_n 1, 8), (8, .iaload, 9), (9, .istore_n 2, 10), (10, .aload_n 0, 11), (11, .getfield 18, 14)]), (28, [(14, .getfield 42, 17), (17, .iload_n 1, 18), (18, .iaload, 19), (19, .istore_n 3, 20), (20, .aload_n 0, 21), (21, .getfield 18, 24), (24, .getfield 45, 27), (27, .iload_n 1, 28)]), (88, [(28, .iaload, 29), (29, .tableswitch 148 0 8 #[51, 148, 56, 62, 75, 89, 103, 114, 131], 80), (80, .aload_n 0, 81), (81, .invokevirtual 48, 84), (84, .ireturn, 85), (85, .aload_n 0, 86), (86, .iload_n 2, 87), (87, .invokevirtual 52, 90)]), (102, [(90, .ireturn, 91), (91, .aload_n 0, 92), (92, .invokevirtual 48, 95), (95, .aload_n 0, 96), (96, .iload_n 2, 97), (97, .invokevirtual 52, 100), (100, .iconst (-1), 101), (101, .ixor, 102)]), (112, [(102, .iand, 103), (103, .ireturn, 104), (104, .aload_n 0, 105), (105, .getfield 15, 108), (108, .iload_n 2, 109), (109, .iaload, 110), (110, .aload_n 0, 111), (111, .getfield 15, 114)]), (124, [(114, .iload_n 3, 115), (115, .iaload, 116), (116, .iand, 117), (117, .ireturn, 118), (118, .aload_n 0, 119), (119, .getfield 15, 122), (122, .iload_n 2, 123), (123, .iaload, 124)]), (134, [(124, .aload_n 0, 125), (125, .getfield 15, 128), (128, .iload_n 3, 129), (129, .iaload, 130), (130, .ior, 131), (131, .ireturn, 132), (132, .aload_n 0, 133), (133, .aload_n 0, 134)]), (146, [(134, .getfield 15, 137), (137, .iload_n 2, 138), (138, .iaload, 139), (139, .invokevirtual 55, 142), (142, .ireturn, 143), (143, .aload_n 0, 144), (144, .aload_n 0, 145), (145, .getfield 15, 148)]), (160, [(148, .iload_n 2, 149), (149, .iaload, 150), (150, .aload_n 0, 151), (151, .getfield 15, 154), (154, .iload_n 3, 155), (155, .iaload, 156), (156, .invokevirtual 58, 159), (159, .ireturn, 160)]), (172, [(160, .aload_n 0, 161), (161, .aload_n 0, 162), (162, .getfield 15, 165), (165, .iload_n 2, 166), (166, .iaload, 167), (167, .aload_n 0, 168), (168, .getfield 15, 171), (171, .iload_n 3, 172)]), (179, [(172, .iaload, 173), (173, .invokevirtual 62, 176), (176, .ireturn, 177), (177, .iconst 0, 178), (178, .ireturn, 179)])]
def tb_26 : List (Nat × List xm_I) := [(9, [(0, .iconst 1, 1), (1, .aload_n 0, 2), (2, .getfield 22, 5), (5, .ishl, 6), (6, .iconst 1, 7), (7, .isub, 8), (8, .ireturn, 9)])]
def tb_27 : List (Nat × List xm_I) := [(10, [(0, .iconst 0, 1), (1, .istore_n 2, 2), (2, .iconst 0, 3), (3, .istore_n 3, 4), (4, .iload_n 3, 5), (5, .aload_n 0, 6), (6, .getfield 22, 9), (9, .if_icmp .ge 24, 12)]), (22, [(12, .iload_n 2, 13), (13, .aload_n 0, 14), (14, .getfield 9, 17), (17, .iload_n 3, 18), (18, .iaload, 19), (19, .iload_n 1, 20), (20, .ishr, 21), (21, .iconst 1, 22)]), (34, [(22, .iand, 23), (23, .iload_n 3, 24), (24, .ishl, 25), (25, .ior, 26), (26, .istore_n 2, 27), (27, .iinc 3 1, 30), (30, .goto (-26), 33), (33, .iload_n 2, 34)]), (35, [(34, .ireturn, 35)])]
def tb_28 : List (Nat × List xm_I) := [(10, [(0, .iload_n 1, 1), (1, .iconst 1, 2), (2, .ishr, 3), (3, .iload_n 1, 4), (4, .aload_n 0, 5), (5, .getfield 26, 8), (8, .ishr, 9), (9, .iconst 1, 10)]), (20, [(10, .iand, 11), (11, .aload_n 0, 12), (12, .getfield 22, 15), (15, .iconst 1, 16), (16, .isub, 17), (17, .ishl, 18), (18, .ior, 19), (19, .ireturn, 20)])]
def tb_29 : List (Nat × List xm_I) := [(12, [(0, .iload_n 2, 1), (1, .istore_n 3, 2), (2, .iconst 0, 3), (3, .istore 4, 5), (5, .iload 4, 7), (7, .aload_n 0, 8), (8, .getfield 22, 11), (11, .if_icmp .ge 19, 14)]), (24, [(14, .iload_n 2, 15), (15, .iload_n 1, 16), (16, .aload_n 0, 17), (17, .iload_n 3, 18), (18, .invokevirtual 55, 21), (21, .iand, 22), (22, .ior, 23), (23, .istore_n 3, 24)]), (32, [(24, .iinc 4 1, 27), (27, .goto (-22), 30), (30, .iload_n 3, 31), (31, .ireturn, 32)])]
def tb_30 : List (Nat × List xm_I) := [(12, [(0, .iload_n 2, 1), (1, .istore_n 3, 2), (2, .iconst 0, 3), (3, .istore 4, 5), (5, .iload 4, 7), (7, .aload_n 0, 8), (8, .getfield 22, 11), (11, .if_icmp .ge 19, 14)]), (24, [(14, .iload_n 2, 15), (15, .iload_n 1, 16), (16, .aload_n 0, 17), (17, .iload_n 3, 18), (18, .invokevirtual 55, 21), (21, .ior, 22), (22, .iand, 23), (23, .istore_n 3, 24)]), (32, [(24, .iinc 4 1, 27), (27, .goto (-22), 30), (30, .iload_n 3, 31), (31, .ireturn, 32)])]
def tb_31 : List (Nat × List xm_I) := [(16, [(0, .aload_n 0, 1), (1, .getfield 10, 4), (4, .iload_n 1, 5), (5, .invokevirtual 74, 8), (8, .ifCond .eq 13, 11), (11, .iload_n 2, 12), (12, .ifCond .lt 9, 15), (15, .iload_n 2, 16)]), (29, [(16, .bipush 16, 18), (18, .if_icmp .lt 5, 21), (21, .iconst (-1), 22), (22, .ireturn, 23), (23, .aload_n 0, 24), (24, .getfield 28, 27), (27, .iload_n 1, 28), (28, .iload_n 2, 29)]), (45, [(29, .invokevirtual 92, 32), (32, .ifCond .eq 15, 35), (35, .aload_n 0, 36), (36, .getfield 28, 39), (39, .iload_n 1, 40), (40, .iload_n 2, 41), (41, .invokevirtual 96, 44), (44, .goto 5, 47)]), (50, [(47, .bipush (-2), 49), (49, .ireturn, 50)])]
def tb_32 : List (Nat × List xm_I) := [(12, [(0, .iconst 0, 1), (1, .istore_n 3, 2), (2, .iload_n 3, 3), (3, .iload_n 1, 4), (4, .if_icmp .gt 68, 7), (7, .aload_n 0, 8), (8, .getfield 35, 11), (11, .iload_n 3, 12)]), (28, [(12, .iload_n 1, 13), (13, .invokevirtual 49, 16), (16, .ifCond .ne 6, 19), (19, .goto 47, 22), (22, .iload_n 3, 23), (23, .iload_n 2, 24), (24, .invokestatic 45, 27), (27, .istore 4, 29)]), (42, [(29, .aload_n 0, 30), (30, .getfield 15, 33), (33, .iload 4, 35), (35, .iaload, 36), (36, .iconst (-1), 37), (37, .if_icmp .ne 15, 40), (40, .aload_n 0, 41), (41, .iload_n 3, 42)]), (57, [(42, .iload_n 2, 43), (43, .invokevirtual 55, 46), (46, .aload_n 0, 47), (47, .iload 4, 49), (49, .invokevirtual 59, 52), (52, .aload_n 0, 53), (53, .getfield 15, 56), (56, .iload 4, 58)]), (73, [(58, .iaload, 59), (59, .bipush (-2), 61), (61, .if_icmp .ne 5, 64), (64, .iconst 0, 65), (65, .ireturn, 66), (66, .iinc 3 1, 69), (69, .goto (-67), 72), (72, .iconst 1, 73)]), (74, [(73, .ireturn, 74)])]
def tb_33 : List (Nat × List xm_I) := [(7, [(0, .iload_n 0, 1), (1, .bipush 16, 3), (3, .imul, 4), (4, .iload_n 1, 5), (5, .iadd, 6), (6, .ireturn, 7)])]
def tb_34 : List (Nat × List xm_I) := [(12, [(0, .aload_n 0, 1), (1, .getfield 35, 4), (4, .getfield 87, 7), (7, .iload_n 1, 8), (8, .iaload, 9), (9, .istore_n 3, 10), (10, .aload_n 0, 11), (11, .getfield 35, 14)]), (29, [(14, .getfield 90, 17), (17, .iload_n 1, 18), (18, .iaload, 19), (19, .istore 4, 21), (21, .aload_n 0, 22), (22, .getfield 35, 25), (25, .getfield 93, 28), (28, .iload_n 1, 29)]), (93, [(29, .iaload, 30), (30, .istore 5, 32), (32, .aload_n 0, 33), (33, .getfield 25, 36), (36, .invokevirtual 96, 39), (39, .iload_n 3, 40), (40, .tableswitch 209 0 8 #[52, 209, 63, 63, 93, 105, 132, 147, 182], 92), (92, .aload_n 0, 93)]), (108, [(93, .getfield 25, 96), (96, .lconst 0, 97), (97, .invokevirtual 99, 100), (100, .goto 149, 103), (103, .iload_n 2, 104), (104, .iload 4, 106), (106, .ishr, 107), (107, .iconst 1, 108)]), (120, [(108, .iand, 109), (109, .iload_n 3, 110), (110, .iconst 2, 111), (111, .if_icmp .ne 7, 114), (114, .iconst 1, 115), (115, .goto 4, 118), (118, .iconst 0, 119), (119, .if_icmp .ne 130, 122)]), (137, [(122, .aload_n 0, 123), (123, .getfield 25, 126), (126, .lconst 0, 127), (127, .invokevirtual 99, 130), (130, .goto 119, 133), (133, .aload_n 0, 134), (134, .iload 4, 136), (136, .iload 5, 138)]), (153, [(138, .iload_n 2, 139), (139, .invokevirtual 103, 142), (142, .goto 107, 145), (145, .aload_n 0, 146), (146, .aload_n 0, 147), (147, .getfield 25, 150), (150, .iload 4, 152), (152, .iload_n 2, 153)]), (166, [(153, .lconst 0, 154), (154, .invokevirtual 107, 157), (157, .aload_n 0, 158), (158, .aload_n 0, 159), (159, .getfield 25, 162), (162, .iload 5, 164), (164, .iload_n 2, 165), (165, .lconst 0, 166)]), (185, [(166, .invokevirtual 107, 169), (169, .goto 80, 172), (172, .aload_n 0, 173), (173, .getfield 25, 176), (176, .iload 4, 178), (178, .invokestatic 111, 181), (181, .invokevirtual 99, 184), (184, .goto 65, 187)]), (200, [(187, .aload_n 0, 188), (188, .aload_n 0, 189), (189, .getfield 25, 192), (192, .iload 5, 194), (194, .iload_n 2, 195), (195, .lconst 0, 196), (196, .invokevirtual 107, 199), (199, .aload_n 0, 200)]), (213, [(200, .aload_n 0, 201), (201, .getfield 25, 204), (204, .iload 4, 206), (206, .iload_n 2, 207), (207, .iload_n 1, 208), (208, .invokestatic 111, 211), (211, .iload_n 1, 212), (212, .invokestatic 115, 215)]), (229, [(215, .lor, 216), (216, .invokevirtual 107, 219), (219, .goto 30, 222), (222, .aload_n 0, 223), (223, .iload 5, 225), (225, .iload 4, 227), (227, .iload_n 2, 228), (228, .invokevirtual 103, 231)]), (244, [(231, .aload_n 0, 232), (232, .aload_n 0, 233), (233, .getfield 25, 236), (236, .iload 5, 238), (238, .iload_n 2, 239), (239, .iload_n 1, 240), (240, .invokestatic 111, 243), (243, .invokevirtual 107, 246)]), (250, [(246, .goto 3, 249), (249, .return_, 250)])]
def tb_35 : List (Nat × List xm_I) := [(11, [(0, .aload_n 0, 1), (1, .iconst 0, 2), (2, .putfield 15, 5), (5, .aload_n 0, 6), (6, .iconst 0, 7), (7, .putfield 19, 10), (10, .return_, 11)])]
def tb_36 : List (Nat × List xm_I) := [(12, [(0, .iconst 0, 1), (1, .istore_n 3, 2), (2, .aload_n 0, 3), (3, .getfield 15, 6), (6, .istore 4, 8), (8, .iload_n 3, 9), (9, .iload 4, 11), (11, .if_icmp .ge 38, 14)]), (24, [(14, .iload_n 3, 15), (15, .iload 4, 17), (17, .iadd, 18), (18, .iconst 2, 19), (19, .idiv, 20), (20, .istore 5, 22), (22, .aload_n 0, 23), (23, .getfield 9, 26)]), (38, [(26, .iload 5, 28), (28, .laload, 29), (29, .lload_n 1, 30), (30, .lcmp, 31), (31, .ifCond .ge 11, 34), (34, .iload 5, 36), (36, .iconst 1, 37), (37, .iadd, 38)]), (52, [(38, .istore_n 3, 39), (39, .goto 7, 42), (42, .iload 5, 44), (44, .istore 4, 46), (46, .goto (-38), 49), (49, .iload_n 3, 50), (50, .aload_n 0, 51), (51, .getfield 15, 54)]), (66, [(54, .if_icmp .ge 15, 57), (57, .aload_n 0, 58), (58, .getfield 9, 61), (61, .iload_n 3, 62), (62, .laload, 63), (63, .lload_n 1, 64), (64, .lcmp, 65), (65, .ifCond .ne 4, 68)]), (81, [(68, .return_, 69), (69, .aload_n 0, 70), (70, .getfield 15, 73), (73, .bipush 60, 75), (75, .if_icmp .lt 9, 78), (78, .aload_n 0, 79), (79, .iconst 1, 80), (80, .putfield 19, 83)]), (97, [(83, .return_, 84), (84, .aload_n 0, 85), (85, .getfield 15, 88), (88, .istore 5, 90), (90, .iload 5, 92), (92, .iload_n 3, 93), (93, .if_icmp .le 25, 96), (96, .aload_n 0, 97)]), (111, [(97, .getfield 9, 100), (100, .iload 5, 102), (102, .aload_n 0, 103), (103, .getfield 9, 106), (106, .iload 5, 108), (108, .iconst 1, 109), (109, .isub, 110), (110, .laload, 111)]), (125, [(111, .lastore, 112), (112, .iinc 5 (-1), 115), (115, .goto (-25), 118), (118, .aload_n 0, 119), (119, .getfield 9, 122), (122, .iload_n 3, 123), (123, .lload_n 1, 124), (124, .lastore, 125)]), (136, [(125, .aload_n 0, 126), (126, .dup, 127), (127, .getfield 15, 130), (130, .iconst 1, 131), (131, .iadd, 132), (132, .putfield 15, 135), (135, .return_, 136)])]
def tb_37 : List (Nat × List xm_I) := [(13, [(0, .iload_n 1, 1), (1, .iload_n 3, 2), (2, .invokestatic 45, 5), (5, .istore 4, 7), (7, .iconst 0, 8), (8, .istore 5, 10), (10, .iload 5, 12), (12, .aload_n 0, 13)]), (30, [(13, .getfield 15, 16), (16, .iload 4, 18), (18, .iaload, 19), (19, .if_icmp .ge 44, 22), (22, .aload_n 0, 23), (23, .getfield 25, 26), (26, .getfield 63, 29), (29, .ifCond .ne 34, 32)]), (44, [(32, .aload_n 0, 33), (33, .aload_n 0, 34), (34, .getfield 25, 37), (37, .iload_n 2, 38), (38, .iload_n 3, 39), (39, .aload_n 0, 40), (40, .getfield 18, 43), (43, .aload_n 0, 44)]), (58, [(44, .getfield 9, 47), (47, .iload 4, 49), (49, .iaload, 50), (50, .iload 5, 52), (52, .iadd, 53), (53, .laload, 54), (54, .invokevirtual 107, 57), (57, .iinc 5 1, 60)]), (64, [(60, .goto (-50), 63), (63, .return_, 64)])]
def tb_38 : List (Nat × List xm_I) := [(13, [(0, .iload_n 2, 1), (1, .iload_n 3, 2), (2, .invokestatic 45, 5), (5, .istore 6, 7), (7, .iconst 0, 8), (8, .istore 7, 10), (10, .iload 7, 12), (12, .aload_n 0, 13)]), (30, [(13, .getfield 15, 16), (16, .iload 6, 18), (18, .iaload, 19), (19, .if_icmp .ge 38, 22), (22, .aload_n 1, 23), (23, .getfield 63, 26), (26, .ifCond .ne 31, 29), (29, .aload_n 1, 30)]), (44, [(30, .aload_n 0, 31), (31, .getfield 18, 34), (34, .aload_n 0, 35), (35, .getfield 9, 38), (38, .iload 6, 40), (40, .iaload, 41), (41, .iload 7, 43), (43, .iadd, 44)]), (58, [(44, .laload, 45), (45, .lload 4, 47), (47, .lor, 48), (48, .invokevirtual 99, 51), (51, .iinc 7 1, 54), (54, .goto (-44), 57), (57, .return_, 58)])]
def tb_39 : List (Nat × List xm_I) := [(4, [(0, .lconst 1, 1), (1, .iload_n 0, 2), (2, .lshl, 3), (3, .lreturn, 4)])]
def tb_40 : List (Nat × List xm_I) := [(7, [(0, .lconst 1, 1), (1, .bipush 28, 3), (3, .iload_n 0, 4), (4, .iadd, 5), (5, .lshl, 6), (6, .lreturn, 7)])]
def tb_41 : List (Nat × List xm_I) := [(16, [(0, .aload_n 0, 1), (1, .getfield 25, 4), (4, .getfield 63, 7), (7, .ifCond .eq 12, 10), (10, .aload_n 0, 11), (11, .getfield 15, 14), (14, .iload_n 1, 15), (15, .bipush (-2), 17)]), (31, [(17, .iastore, 18), (18, .return_, 19), (19, .aload_n 0, 20), (20, .getfield 67, 23), (23, .aload_n 0, 24), (24, .getfield 25, 27), (27, .getfield 71, 30), (30, .iadd, 31)]), (45, [(31, .aload_n 0, 32), (32, .getfield 18, 35), (35, .arraylength, 36), (36, .if_icmp .le 21, 39), (39, .aload_n 0, 40), (40, .aload_n 0, 41), (41, .getfield 18, 44), (44, .iconst 2, 45)]), (59, [(45, .aload_n 0, 46), (46, .getfield 18, 49), (49, .arraylength, 50), (50, .imul, 51), (51, .invokestatic 74, 54), (54, .putfield 18, 57), (57, .aload_n 0, 58), (58, .getfield 25, 61)]), (75, [(61, .getfield 78, 64), (64, .iconst 0, 65), (65, .aload_n 0, 66), (66, .getfield 18, 69), (69, .aload_n 0, 70), (70, .getfield 67, 73), (73, .aload_n 0, 74), (74, .getfield 25, 77)]), (93, [(77, .getfield 71, 80), (80, .invokestatic 81, 83), (83, .aload_n 0, 84), (84, .getfield 9, 87), (87, .iload_n 1, 88), (88, .aload_n 0, 89), (89, .getfield 67, 92), (92, .iastore, 93)]), (107, [(93, .aload_n 0, 94), (94, .getfield 15, 97), (97, .iload_n 1, 98), (98, .aload_n 0, 99), (99, .getfield 25, 102), (102, .getfield 71, 105), (105, .iastore, 106), (106, .aload_n 0, 107)]), (123, [(107, .dup, 108), (108, .getfield 67, 111), (111, .aload_n 0, 112), (112, .getfield 25, 115), (115, .getfield 71, 118), (118, .iadd, 119), (119, .putfield 67, 122), (122, .return_, 123)])]
def tb_42 : List (Nat × List xm_I) := [(15, [(0, .iload_n 1, 1), (1, .aload_n 0, 2), (2, .arraylength, 3), (3, .if_icmp .ne 11, 6), (6, .aload_n 0, 7), (7, .invokevirtual 319, 10), (13, .areturn, 14), (14, .iload_n 1, 15)]), (24, [(15, .newarray .long, 17), (17, .astore_n 2, 18), (18, .aload_n 0, 19), (19, .iconst 0, 20), (20, .aload_n 2, 21), (21, .iconst 0, 22), (22, .aload_n 0, 23), (23, .arraylength, 24)]), (33, [(24, .iload_n 1, 25), (25, .invokestatic 304, 28), (28, .invokestatic 150, 31), (31, .aload_n 2, 32), (32, .areturn, 33)])]
def tb_43 : List (Nat × List xm_I) := [(11, [(0, .iload_n 0, 1), (1, .iload_n 1, 2), (2, .if_icmp .gt 7, 5), (5, .iload_n 0, 6), (6, .goto 4, 9), (9, .iload_n 1, 10), (10, .ireturn, 11)])]
def tb_44 : List (Nat × List xm_I) := [(11, [(0, .aload_n 0, 1), (1, .getfield 15, 4), (4, .iload_n 1, 5), (5, .iload_n 2, 6), (6, .invokestatic 45, 9), (9, .iaload, 10), (10, .ireturn, 11)])]
def tb_45 : List (Nat × List xm_I) := [(14, [(0, .aload_n 0, 1), (1, .getfield 10, 4), (4, .iload_n 1, 5), (5, .invokevirtual 74, 8), (8, .ifCond .ne 5, 11), (11, .iconst (-1), 12), (12, .ireturn, 13), (13, .aload_n 0, 14)]), (32, [(14, .getfield 37, 17), (17, .iload_n 1, 18), (18, .invokevirtual 98, 21), (21, .ifCond .eq 13, 24), (24, .aload_n 0, 25), (25, .getfield 37, 28), (28, .getfield 100, 31), (31, .goto 5, 34)]), (37, [(34, .bipush (-2), 36), (36, .ireturn, 37)])]
def tb_46 : List (Nat × List xm_I) := [(13, [(0, .iconst 0, 1), (1, .istore_n 2, 2), (2, .iload_n 2, 3), (3, .bipush 16, 5), (5, .if_icmp .ge 23, 8), (8, .aload_n 0, 9), (9, .getfield 31, 12), (12, .iload_n 1, 13)]), (29, [(13, .iload_n 2, 14), (14, .invokevirtual 35, 17), (17, .ifCond .ne 5, 20), (20, .iconst 0, 21), (21, .ireturn, 22), (22, .iinc 2 1, 25), (25, .goto (-23), 28), (28, .aload_n 0, 29)]), (41, [(29, .iload_n 1, 30), (30, .invokevirtual 41, 33), (33, .aload_n 0, 34), (34, .getfield 15, 37), (37, .iconst 0, 38), (38, .iconst 1, 39), (39, .iload_n 1, 40), (40, .ishl, 41)]), (51, [(41, .iastore, 42), (42, .aload_n 0, 43), (43, .getfield 18, 46), (46, .iconst 0, 47), (47, .iconst 0, 48), (48, .iastore, 49), (49, .aload_n 0, 50), (50, .iconst 1, 51)]), (65, [(51, .putfield 45, 54), (54, .iconst 0, 55), (55, .istore_n 2, 56), (56, .iload_n 2, 57), (57, .aload_n 0, 58), (58, .getfield 45, 61), (61, .if_icmp .ge 40, 64), (64, .iload_n 2, 65)]), (79, [(65, .bipush 16, 67), (67, .if_icmp .ge 34, 70), (70, .iconst 0, 71), (71, .istore_n 3, 72), (72, .iload_n 3, 73), (73, .bipush 16, 75), (75, .if_icmp .ge 20, 78), (78, .aload_n 0, 79)]), (93, [(79, .iload_n 2, 80), (80, .iload_n 3, 81), (81, .invokevirtual 49, 84), (84, .ifCond .ne 5, 87), (87, .iconst 0, 88), (88, .ireturn, 89), (89, .iinc 3 1, 92), (92, .goto (-20), 95)]), (103, [(95, .iinc 2 1, 98), (98, .goto (-42), 101), (101, .iconst 1, 102), (102, .ireturn, 103)])]
def tb_47 : List (Nat × List xm_I) := [(10, [(0, .aload_n 0, 1), (1, .iconst 0, 2), (2, .putfield 52, 5), (5, .iconst 0, 6), (6, .istore_n 2, 7), (7, .iload_n 2, 8), (8, .iload_n 1, 9), (9, .if_icmp .gt 55, 12)]), (26, [(12, .aload_n 0, 13), (13, .getfield 27, 16), (16, .iload_n 2, 17), (17, .iload_n 1, 18), (18, .invokevirtual 55, 21), (21, .ifCond .eq 37, 24), (24, .aload_n 0, 25), (25, .getfield 27, 28)]), (43, [(28, .getfield 60, 31), (31, .iload_n 2, 32), (32, .iaload, 33), (33, .bipush 7, 35), (35, .if_icmp .ne 23, 38), (38, .aload_n 0, 39), (39, .getfield 9, 42), (42, .aload_n 0, 43)]), (55, [(43, .getfield 52, 46), (46, .iload_n 2, 47), (47, .iastore, 48), (48, .aload_n 0, 49), (49, .dup, 50), (50, .getfield 52, 53), (53, .iconst 1, 54), (54, .iadd, 55)]), (65, [(55, .putfield 52, 58), (58, .iinc 2 1, 61), (61, .goto (-54), 64), (64, .return_, 65)])]
def tb_48 : List (Nat × List xm_I) := [(12, [(0, .aload_n 0, 1), (1, .getfield 31, 4), (4, .aload_n 0, 5), (5, .getfield 15, 8), (8, .iload_n 1, 9), (9, .iaload, 10), (10, .iload_n 2, 11), (11, .invokevirtual 63, 14)]), (26, [(14, .astore_n 3, 15), (15, .aload_n 3, 16), (16, .getfield 67, 19), (19, .ifCond .eq 5, 22), (22, .iconst 0, 23), (23, .ireturn, 24), (24, .iload_n 1, 25), (25, .bipush 16, 27)]), (39, [(27, .imul, 28), (28, .iload_n 2, 29), (29, .iadd, 30), (30, .istore 4, 32), (32, .aload_n 0, 33), (33, .getfield 21, 36), (36, .iload 4, 38), (38, .iconst 0, 39)]), (50, [(39, .iastore, 40), (40, .aload_n 0, 41), (41, .getfield 24, 44), (44, .iload 4, 46), (46, .iconst 0, 47), (47, .iastore, 48), (48, .iconst 0, 49), (49, .istore 5, 51)]), (67, [(51, .iload 5, 53), (53, .aload_n 3, 54), (54, .getfield 73, 57), (57, .if_icmp .ge 100, 60), (60, .aload_n 3, 61), (61, .getfield 74, 64), (64, .iload 5, 66), (66, .laload, 67)]), (79, [(67, .lstore 6, 69), (69, .aload_n 0, 70), (70, .aload_n 0, 71), (71, .getfield 18, 74), (74, .iload_n 1, 75), (75, .iaload, 76), (76, .lload 6, 78), (78, .invokestatic 78, 81)]), (96, [(81, .invokevirtual 82, 84), (84, .istore 8, 86), (86, .aload_n 0, 87), (87, .lload 6, 89), (89, .invokestatic 86, 92), (92, .iload 8, 94), (94, .iconst (-1), 95), (95, .if_icmp .ne 7, 98)]), (113, [(98, .iconst 0, 99), (99, .goto 5, 102), (102, .iload 8, 104), (104, .invokevirtual 89, 107), (107, .istore 9, 109), (109, .iload 9, 111), (111, .iconst (-1), 112), (112, .if_icmp .ne 5, 115)]), (126, [(115, .iconst 0, 116), (116, .ireturn, 117), (117, .aload_n 0, 118), (118, .getfield 21, 121), (121, .iload 4, 123), (123, .dup2, 124), (124, .iaload, 125), (125, .iconst 1, 126)]), (138, [(126, .iload 9, 128), (128, .ishl, 129), (129, .ior, 130), (130, .iastore, 131), (131, .iload 8, 133), (133, .iconst (-1), 134), (134, .if_icmp .ne 17, 137), (137, .aload_n 0, 138)]), (150, [(138, .getfield 24, 141), (141, .iload 4, 143), (143, .dup2, 144), (144, .iaload, 145), (145, .iconst 1, 146), (146, .iload 9, 148), (148, .ishl, 149), (149, .ior, 150)]), (159, [(150, .iastore, 151), (151, .iinc 5 1, 154), (154, .goto (-103), 157), (157, .iconst 1, 158), (158, .ireturn, 159)])]
def tb_49 : List (Nat × List xm_I) := [(13, [(0, .aload_n 0, 1), (1, .getfield 29, 4), (4, .astore_n 3, 5), (5, .aload_n 0, 6), (6, .getfield 32, 9), (9, .astore 4, 11), (11, .aload_n 3, 12), (12, .invokevirtual 96, 15)]), (28, [(15, .aload_n 3, 16), (16, .lconst 0, 17), (17, .invokevirtual 99, 20), (20, .iconst 0, 21), (21, .istore 5, 23), (23, .iload 5, 25), (25, .bipush 28, 27), (27, .if_icmp .ge 92, 30)]), (45, [(30, .iload_n 1, 31), (31, .iload 5, 33), (33, .ishr, 34), (34, .ifCond .eq 85, 37), (37, .aload_n 3, 38), (38, .getfield 63, 41), (41, .ifCond .ne 78, 44), (44, .iload_n 1, 45)]), (59, [(45, .iload 5, 47), (47, .ishr, 48), (48, .iconst 1, 49), (49, .iand, 50), (50, .ifCond .ne 6, 53), (53, .goto 60, 56), (56, .aload 4, 58), (58, .invokevirtual 96, 61)]), (76, [(61, .iconst 0, 62), (62, .istore 6, 64), (64, .iload 6, 66), (66, .aload_n 3, 67), (67, .getfield 71, 70), (70, .if_icmp .ge 33, 73), (73, .aload 4, 75), (75, .getfield 63, 78)]), (92, [(78, .ifCond .ne 25, 81), (81, .aload_n 0, 82), (82, .aload 4, 84), (84, .iload 5, 86), (86, .iload_n 2, 87), (87, .aload_n 3, 88), (88, .getfield 78, 91), (91, .iload 6, 93)]), (109, [(93, .laload, 94), (94, .invokevirtual 107, 97), (97, .iinc 6 1, 100), (100, .goto (-36), 103), (103, .aload_n 3, 104), (104, .astore 6, 106), (106, .aload 4, 108), (108, .astore_n 3, 109)]), (121, [(109, .aload 6, 111), (111, .astore 4, 113), (113, .iinc 5 1, 116), (116, .goto (-93), 119), (119, .aload_n 3, 120), (120, .areturn, 121)])]
def tb_50 : List (Nat × List xm_I) := [(6, [(0, .lload_n 0, 1), (1, .bipush 28, 3), (3, .lshr, 4), (4, .l2i, 5), (5, .ireturn, 6)])]
def tb_51 : List (Nat × List xm_I) := [(12, [(0, .iload_n 1, 1), (1, .istore_n 3, 2), (2, .iload_n 3, 3), (3, .aload_n 0, 4), (4, .getfield 52, 7), (7, .if_icmp .ge 24, 10), (10, .iload_n 2, 11), (11, .aload_n 0, 12)]), (24, [(12, .getfield 9, 15), (15, .iload_n 3, 16), (16, .iaload, 17), (17, .ishr, 18), (18, .iconst 1, 19), (19, .iand, 20), (20, .ifCond .eq 5, 23), (23, .iload_n 3, 24)]), (33, [(24, .ireturn, 25), (25, .iinc 3 1, 28), (28, .goto (-26), 31), (31, .iconst (-1), 32), (32, .ireturn, 33)])]
def tb_52 : List (Nat × List xm_I) := [(7, [(0, .lload_n 0, 1), (1, .ldc2_w 23, 4), (4, .land, 5), (5, .l2i, 6), (6, .ireturn, 7)])]
def tb_53 : List (Nat × List xm_I) := [(12, [(0, .iconst 0, 1), (1, .istore_n 3, 2), (2, .iload_n 3, 3), (3, .aload_n 0, 4), (4, .getfield 45, 7), (7, .if_icmp .ge 31, 10), (10, .aload_n 0, 11), (11, .getfield 15, 14)]), (26, [(14, .iload_n 3, 15), (15, .iaload, 16), (16, .iload_n 1, 17), (17, .if_icmp .ne 15, 20), (20, .aload_n 0, 21), (21, .getfield 18, 24), (24, .iload_n 3, 25), (25, .iaload, 26)]), (40, [(26, .iload_n 2, 27), (27, .if_icmp .ne 5, 30), (30, .iload_n 3, 31), (31, .ireturn, 32), (32, .iinc 3 1, 35), (35, .goto (-33), 38), (38, .aload_n 0, 39), (39, .getfield 45, 42)]), (55, [(42, .bipush 16, 44), (44, .if_icmp .lt 5, 47), (47, .iconst (-1), 48), (48, .ireturn, 49), (49, .aload_n 0, 50), (50, .getfield 15, 53), (53, .aload_n 0, 54), (54, .getfield 45, 57)]), (69, [(57, .iload_n 1, 58), (58, .iastore, 59), (59, .aload_n 0, 60), (60, .getfield 18, 63), (63, .aload_n 0, 64), (64, .getfield 45, 67), (67, .iload_n 2, 68), (68, .iastore, 69)]), (81, [(69, .aload_n 0, 70), (70, .dup, 71), (71, .getfield 45, 74), (74, .iconst 1, 75), (75, .iadd, 76), (76, .putfield 45, 79), (79, .aload_n 0, 80), (80, .getfield 45, 83)]), (86, [(83, .iconst 1, 84), (84, .isub, 85), (85, .ireturn, 86)])]
def tb_54 : List (Nat × List xm_I) := [(16, [(0, .aload_n 0, 1), (1, .getfield 10, 4), (4, .iload_n 1, 5), (5, .invokevirtual 74, 8), (8, .ifCond .eq 12, 11), (11, .iload_n 2, 12), (12, .ifCond .lt 8, 15), (15, .iload_n 2, 16)]), (30, [(16, .iconst 3, 17), (17, .if_icmp .le 5, 20), (20, .iconst (-1), 21), (21, .ireturn, 22), (22, .aload_n 0, 23), (23, .getfield 55, 26), (26, .invokevirtual 101, 29), (29, .aload_n 0, 30)]), (43, [(30, .getfield 10, 33), (33, .iload_n 1, 34), (34, .iconst 0, 35), (35, .invokevirtual 77, 38), (38, .istore_n 3, 39), (39, .iload_n 3, 40), (40, .bipush (-2), 42), (42, .if_icmp .eq 25, 45)]), (61, [(45, .aload_n 0, 46), (46, .getfield 37, 49), (49, .iload_n 3, 50), (50, .invokevirtual 98, 53), (53, .ifCond .eq 14, 56), (56, .aload_n 0, 57), (57, .getfield 46, 60), (60, .iload_n 2, 61)]), (76, [(61, .invokevirtual 104, 64), (64, .ifCond .ne 6, 67), (67, .bipush (-2), 69), (69, .ireturn, 70), (70, .aload_n 0, 71), (71, .getfield 46, 74), (74, .iconst 1, 75), (75, .invokevirtual 107, 78)]), (92, [(78, .ifCond .eq 12, 81), (81, .aload_n 0, 82), (82, .getfield 55, 85), (85, .invokevirtual 110, 88), (88, .iconst 1, 89), (89, .ireturn, 90), (90, .aload_n 0, 91), (91, .getfield 37, 94)]), (110, [(94, .iload_n 1, 95), (95, .invokevirtual 98, 98), (98, .ifCond .eq 14, 101), (101, .aload_n 0, 102), (102, .getfield 46, 105), (105, .iload_n 2, 106), (106, .invokevirtual 104, 109), (109, .ifCond .ne 6, 112)]), (127, [(112, .bipush (-2), 114), (114, .ireturn, 115), (115, .aload_n 0, 116), (116, .getfield 46, 119), (119, .iconst 2, 120), (120, .invokevirtual 107, 123), (123, .ifCond .eq 12, 126), (126, .aload_n 0, 127)]), (137, [(127, .getfield 55, 130), (130, .invokevirtual 113, 133), (133, .iconst 2, 134), (134, .ireturn, 135), (135, .iconst 0, 136), (136, .ireturn, 137)])]
def tb_55 : List (Nat × List xm_I) := [(12, [(0, .aload_n 0, 1), (1, .iconst 0, 2), (2, .putfield 9, 5), (5, .aload_n 0, 6), (6, .iconst 0, 7), (7, .putfield 32, 10), (10, .aload_n 0, 11), (11, .iconst 0, 12)]), (21, [(12, .putfield 35, 15), (15, .aload_n 0, 16), (16, .iconst 0, 17), (17, .putfield 38, 20), (20, .return_, 21)])]
def tb_56 : List (Nat × List xm_I) := [(12, [(0, .aload_n 0, 1), (1, .getfield 9, 4), (4, .iconst 0, 5), (5, .lconst 0, 6), (6, .iconst 0, 7), (7, .iconst 0, 8), (8, .invokestatic 27, 11), (11, .lastore, 12)]), (22, [(12, .aload_n 0, 13), (13, .iconst 1, 14), (14, .putfield 31, 17), (17, .iconst 0, 18), (18, .istore_n 2, 19), (19, .iload_n 2, 20), (20, .aload_n 0, 21), (21, .getfield 31, 24)]), (37, [(24, .if_icmp .ge 86, 27), (27, .iload_n 2, 28), (28, .bipush 100, 30), (30, .if_icmp .ge 80, 33), (33, .iconst 0, 34), (34, .istore_n 3, 35), (35, .iload_n 3, 36), (36, .bipush 16, 38)]), (50, [(38, .if_icmp .ge 66, 41), (41, .aload_n 0, 42), (42, .aload_n 0, 43), (43, .getfield 9, 46), (46, .iload_n 2, 47), (47, .laload, 48), (48, .iload_n 3, 49), (49, .iload_n 1, 50)]), (66, [(50, .invokevirtual 35, 53), (53, .lstore 4, 55), (55, .lload 4, 57), (57, .ldc2_w 38, 60), (60, .lcmp, 61), (61, .ifCond .ne 7, 64), (64, .iconst (-1), 65), (65, .goto 9, 68)]), (84, [(68, .aload_n 0, 69), (69, .lload 4, 71), (71, .invokevirtual 40, 74), (74, .istore 6, 76), (76, .iload 6, 78), (78, .bipush (-2), 80), (80, .if_icmp .ne 5, 83), (83, .iconst 0, 84)]), (95, [(84, .ireturn, 85), (85, .aload_n 0, 86), (86, .getfield 15, 89), (89, .iload_n 2, 90), (90, .bipush 16, 92), (92, .imul, 93), (93, .iload_n 3, 94), (94, .iadd, 95)]), (112, [(95, .iload 6, 97), (97, .iastore, 98), (98, .iinc 3 1, 101), (101, .goto (-66), 104), (104, .iinc 2 1, 107), (107, .goto (-88), 110), (110, .iconst 1, 111), (111, .ireturn, 112)])]
def tb_57 : List (Nat × List xm_I) := [(14, [(0, .lload_n 0, 1), (1, .iload_n 2, 2), (2, .invokestatic 46, 5), (5, .istore 4, 7), (7, .iload 4, 9), (9, .iload_n 3, 10), (10, .if_icmp .lt 7, 13), (13, .lload_n 0, 14)]), (25, [(14, .goto 14, 17), (17, .lload_n 0, 18), (18, .iload_n 3, 19), (19, .iload 4, 21), (21, .isub, 22), (22, .i2l, 23), (23, .iconst 4, 24), (24, .iload_n 2, 25)]), (29, [(25, .imul, 26), (26, .lshl, 27), (27, .ladd, 28), (28, .lreturn, 29)])]
def tb_58 : List (Nat × List xm_I) := [(10, [(0, .lload_n 0, 1), (1, .iconst 4, 2), (2, .iload_n 2, 3), (3, .imul, 4), (4, .lshr, 5), (5, .ldc2_w 44, 8), (8, .land, 9), (9, .l2i, 10)]), (13, [(10, .iconst 1, 11), (11, .isub, 12), (12, .ireturn, 13)])]
def tb_59 : List (Nat × List xm_I) := [(13, [(0, .lconst 0, 1), (1, .lstore 5, 3), (3, .iconst 0, 4), (4, .istore 7, 6), (6, .iload 7, 8), (8, .aload_n 0, 9), (9, .getfield 23, 12), (12, .getfield 50, 15)]), (32, [(15, .if_icmp .ge 98, 18), (18, .lload_n 1, 19), (19, .iload 7, 21), (21, .invokestatic 46, 24), (24, .istore 8, 26), (26, .iload 8, 28), (28, .ifCond .ge 6, 31), (31, .goto 76, 34)]), (45, [(34, .iload 7, 36), (36, .bipush 16, 38), (38, .imul, 39), (39, .iload_n 3, 40), (40, .iadd, 41), (41, .istore 9, 43), (43, .aload_n 0, 44), (44, .getfield 23, 47)]), (64, [(47, .getfield 53, 50), (50, .iload 9, 52), (52, .iaload, 53), (53, .ifCond .eq 14, 56), (56, .iload 8, 58), (58, .iload 4, 60), (60, .if_icmp .lt 7, 63), (63, .ldc2_w 38, 66)]), (80, [(66, .lreturn, 67), (67, .lload 5, 69), (69, .aload_n 0, 70), (70, .getfield 23, 73), (73, .getfield 56, 76), (76, .iload 9, 78), (78, .iaload, 79), (79, .iload 8, 81)]), (98, [(81, .invokestatic 59, 84), (84, .lstore 5, 86), (86, .lload 5, 88), (88, .aload_n 0, 89), (89, .getfield 23, 92), (92, .getfield 53, 95), (95, .iload 9, 97), (97, .iaload, 98)]), (114, [(98, .iload 8, 100), (100, .iconst 1, 101), (101, .iadd, 102), (102, .invokestatic 59, 105), (105, .lstore 5, 107), (107, .iinc 7 1, 110), (110, .goto (-104), 113), (113, .lload 5, 115)]), (116, [(115, .lreturn, 116)])]
def tb_60 : List (Nat × List xm_I) := [(14, [(0, .lload_n 0, 1), (1, .lstore 4, 3), (3, .iconst 0, 4), (4, .istore 6, 6), (6, .iload 6, 8), (8, .bipush 16, 10), (10, .if_icmp .ge 35, 13), (13, .iload_n 2, 14)]), (26, [(14, .iload 6, 16), (16, .ishr, 17), (17, .ifCond .eq 28, 20), (20, .iload_n 2, 21), (21, .iload 6, 23), (23, .ishr, 24), (24, .iconst 1, 25), (25, .iand, 26)]), (43, [(26, .ifCond .eq 13, 29), (29, .lload 4, 31), (31, .iload 6, 33), (33, .iload_n 3, 34), (34, .invokestatic 27, 37), (37, .lstore 4, 39), (39, .iinc 6 1, 42), (42, .goto (-36), 45)]), (48, [(45, .lload 4, 47), (47, .lreturn, 48)])]
def tb_61 : List (Nat × List xm_I) := [(12, [(0, .iconst 0, 1), (1, .istore_n 3, 2), (2, .iload_n 3, 3), (3, .aload_n 0, 4), (4, .getfield 31, 7), (7, .if_icmp .ge 22, 10), (10, .aload_n 0, 11), (11, .getfield 9, 14)]), (24, [(14, .iload_n 3, 15), (15, .laload, 16), (16, .lload_n 1, 17), (17, .lcmp, 18), (18, .ifCond .ne 5, 21), (21, .iload_n 3, 22), (22, .ireturn, 23), (23, .iinc 3 1, 26)]), (42, [(26, .goto (-24), 29), (29, .aload_n 0, 30), (30, .getfield 31, 33), (33, .bipush 100, 35), (35, .if_icmp .lt 6, 38), (38, .bipush (-2), 40), (40, .ireturn, 41), (41, .aload_n 0, 42)]), (54, [(42, .getfield 9, 45), (45, .aload_n 0, 46), (46, .getfield 31, 49), (49, .lload_n 1, 50), (50, .lastore, 51), (51, .aload_n 0, 52), (52, .dup, 53), (53, .getfield 31, 56)]), (68, [(56, .iconst 1, 57), (57, .iadd, 58), (58, .putfield 31, 61), (61, .aload_n 0, 62), (62, .getfield 31, 65), (65, .iconst 1, 66), (66, .isub, 67), (67, .ireturn, 68)])]
def tb_62 : List (Nat × List xm_I) := [(12, [(0, .iconst 0, 1), (1, .istore_n 2, 2), (2, .iload_n 2, 3), (3, .aload_n 0, 4), (4, .getfield 31, 7), (7, .if_icmp .ge 16, 10), (10, .aload_n 0, 11), (11, .getfield 19, 14)]), (26, [(14, .iload_n 2, 15), (15, .iconst 1, 16), (16, .bastore, 17), (17, .iinc 2 1, 20), (20, .goto (-18), 23), (23, .aload_n 0, 24), (24, .aload_n 0, 25), (25, .getfield 31, 28)]), (39, [(28, .putfield 62, 31), (31, .iconst 1, 32), (32, .istore_n 2, 33), (33, .iconst 0, 34), (34, .istore_n 3, 35), (35, .iload_n 3, 36), (36, .bipush 100, 38), (38, .if_icmp .gt 19, 41)]), (55, [(41, .iload_n 2, 42), (42, .ifCond .eq 15, 45), (45, .aload_n 0, 46), (46, .iload_n 1, 47), (47, .invokevirtual 65, 50), (50, .istore_n 2, 51), (51, .iinc 3 1, 54), (54, .goto (-19), 57)]), (64, [(57, .aload_n 0, 58), (58, .getfield 19, 61), (61, .iconst 0, 62), (62, .baload, 63), (63, .ireturn, 64)])]
def tb_63 : List (Nat × List xm_I) := [(10, [(0, .aload_n 0, 1), (1, .getfield 62, 4), (4, .istore_n 2, 5), (5, .iconst 0, 6), (6, .istore_n 3, 7), (7, .iload_n 3, 8), (8, .aload_n 0, 9), (9, .getfield 31, 12)]), (26, [(12, .if_icmp .ge 44, 15), (15, .aload_n 0, 16), (16, .getfield 19, 19), (19, .iload_n 3, 20), (20, .baload, 21), (21, .ifCond .eq 29, 24), (24, .aload_n 0, 25), (25, .iload_n 3, 26)]), (40, [(26, .iload_n 1, 27), (27, .invokevirtual 69, 30), (30, .ifCond .ne 20, 33), (33, .aload_n 0, 34), (34, .getfield 19, 37), (37, .iload_n 3, 38), (38, .iconst 0, 39), (39, .bastore, 40)]), (54, [(40, .aload_n 0, 41), (41, .dup, 42), (42, .getfield 62, 45), (45, .iconst 1, 46), (46, .isub, 47), (47, .putfield 62, 50), (50, .iinc 3 1, 53), (53, .goto (-46), 56)]), (70, [(56, .aload_n 0, 57), (57, .getfield 62, 60), (60, .iload_n 2, 61), (61, .if_icmp .eq 7, 64), (64, .iconst 1, 65), (65, .goto 4, 68), (68, .iconst 0, 69), (69, .ireturn, 70)])]
def tb_64 : List (Nat × List xm_I) := [(12, [(0, .iload_n 2, 1), (1, .iconst 2, 2), (2, .if_icmp .ne 18, 5), (5, .aload_n 0, 6), (6, .iload_n 1, 7), (7, .invokevirtual 73, 10), (10, .iconst (-1), 11), (11, .if_icmp .eq 7, 14)]), (24, [(14, .iconst 1, 15), (15, .goto 4, 18), (18, .iconst 0, 19), (19, .ireturn, 20), (20, .iconst 0, 21), (21, .istore_n 3, 22), (22, .iload_n 3, 23), (23, .iconst 4, 24)]), (38, [(24, .if_icmp .ge 21, 27), (27, .aload_n 0, 28), (28, .iload_n 1, 29), (29, .iload_n 3, 30), (30, .invokevirtual 77, 33), (33, .iconst (-1), 34), (34, .if_icmp .ne 5, 37), (37, .iconst 0, 38)]), (47, [(38, .ireturn, 39), (39, .iinc 3 1, 42), (42, .goto (-20), 45), (45, .iconst 1, 46), (46, .ireturn, 47)])]
def tb_65 : List (Nat × List xm_I) := [(10, [(0, .iconst 0, 1), (1, .istore_n 2, 2), (2, .iload_n 2, 3), (3, .iconst 4, 4), (4, .if_icmp .ge 45, 7), (7, .iconst 1, 8), (8, .istore_n 3, 9), (9, .iconst 0, 10)]), (24, [(10, .istore 4, 12), (12, .iload 4, 14), (14, .iconst 4, 15), (15, .if_icmp .ge 22, 18), (18, .iload_n 3, 19), (19, .ifCond .eq 18, 22), (22, .aload_n 0, 23), (23, .iload_n 1, 24)]), (39, [(24, .iload_n 2, 25), (25, .iload 4, 27), (27, .invokevirtual 85, 30), (30, .istore_n 3, 31), (31, .iinc 4 1, 34), (34, .goto (-22), 37), (37, .iload_n 3, 38), (38, .ifCond .eq 5, 41)]), (51, [(41, .iload_n 2, 42), (42, .ireturn, 43), (43, .iinc 2 1, 46), (46, .goto (-44), 49), (49, .iconst (-1), 50), (50, .ireturn, 51)])]
def tb_66 : List (Nat × List xm_I) := [(12, [(0, .aload_n 0, 1), (1, .iload_n 1, 2), (2, .iload_n 2, 3), (3, .iload_n 3, 4), (4, .invokevirtual 81, 7), (7, .istore 4, 9), (9, .iload 4, 11), (11, .iconst (-1), 12)]), (27, [(12, .if_icmp .eq 17, 15), (15, .aload_n 0, 16), (16, .getfield 19, 19), (19, .iload 4, 21), (21, .baload, 22), (22, .ifCond .eq 7, 25), (25, .iconst 1, 26), (26, .goto 4, 29)]), (31, [(29, .iconst 0, 30), (30, .ireturn, 31)])]
def tb_67 : List (Nat × List xm_I) := [(11, [(0, .aload_n 0, 1), (1, .getfield 15, 4), (4, .iload_n 1, 5), (5, .bipush 16, 7), (7, .imul, 8), (8, .iload_n 2, 9), (9, .iadd, 10), (10, .iconst 4, 11)]), (16, [(11, .iload_n 3, 12), (12, .imul, 13), (13, .iadd, 14), (14, .iaload, 15), (15, .ireturn, 16)])]
def tb_68 : List (Nat × List xm_I) := [(10, [(0, .iconst 0, 1), (1, .istore_n 3, 2), (2, .iload_n 3, 3), (3, .iconst 4, 4), (4, .if_icmp .ge 21, 7), (7, .aload_n 0, 8), (8, .iload_n 1, 9), (9, .iload_n 2, 10)]), (26, [(10, .iload_n 3, 11), (11, .invokevirtual 85, 14), (14, .ifCond .eq 5, 17), (17, .iload_n 3, 18), (18, .ireturn, 19), (19, .iinc 3 1, 22), (22, .goto (-20), 25), (25, .iconst (-1), 26)]), (27, [(26, .ireturn, 27)])]
def tb_69 : List (Nat × List xm_I) := [(10, [(0, .aload_n 0, 1), (1, .iconst 1, 2), (2, .invokevirtual 41, 5), (5, .iconst 0, 6), (6, .istore_n 1, 7), (7, .iload_n 1, 8), (8, .aload_n 0, 9), (9, .getfield 32, 12)]), (27, [(12, .if_icmp .ge 51, 15), (15, .iload_n 1, 16), (16, .bipush 100, 18), (18, .if_icmp .ge 45, 21), (21, .aload_n 0, 22), (22, .getfield 15, 25), (25, .iload_n 1, 26), (26, .iaload, 27)]), (37, [(27, .istore_n 2, 28), (28, .iconst 0, 29), (29, .istore_n 3, 30), (30, .iload_n 3, 31), (31, .iconst 4, 32), (32, .if_icmp .ge 25, 35), (35, .aload_n 0, 36), (36, .iload_n 1, 37)]), (49, [(37, .iload_n 3, 38), (38, .iload_n 3, 39), (39, .aload_n 0, 40), (40, .getfield 28, 43), (43, .iload_n 2, 44), (44, .iload_n 3, 45), (45, .invokevirtual 45, 48), (48, .invokevirtual 51, 51)]), (64, [(51, .iinc 3 1, 54), (54, .goto (-24), 57), (57, .iinc 1 1, 60), (60, .goto (-53), 63), (63, .return_, 64)])]
def tb_70 : List (Nat × List xm_I) := [(14, [(0, .aload_n 0, 1), (1, .iload_n 1, 2), (2, .putfield 9, 5), (5, .aload_n 0, 6), (6, .aload_n 0, 7), (7, .getfield 28, 10), (10, .getfield 59, 13), (13, .putfield 35, 16)]), (32, [(16, .aload_n 0, 17), (17, .aload_n 0, 18), (18, .getfield 28, 21), (21, .getfield 60, 24), (24, .putfield 38, 27), (27, .aload_n 0, 28), (28, .getfield 19, 31), (31, .iconst (-1), 32)]), (46, [(32, .invokestatic 63, 35), (35, .aload_n 0, 36), (36, .iconst 0, 37), (37, .putfield 32, 40), (40, .aload_n 0, 41), (41, .iconst 0, 42), (42, .invokevirtual 69, 45), (45, .pop, 46)]), (47, [(46, .return_, 47)])]
def tb_71 : List (Nat × List xm_I) := [(12, [(0, .aload_n 0, 1), (1, .getfield 19, 4), (4, .iload_n 1, 5), (5, .iaload, 6), (6, .iconst (-1), 7), (7, .if_icmp .ne 33, 10), (10, .aload_n 0, 11), (11, .getfield 15, 14)]), (26, [(14, .aload_n 0, 15), (15, .getfield 32, 18), (18, .iload_n 1, 19), (19, .iastore, 20), (20, .aload_n 0, 21), (21, .getfield 19, 24), (24, .iload_n 1, 25), (25, .aload_n 0, 26)]), (38, [(26, .getfield 32, 29), (29, .iastore, 30), (30, .aload_n 0, 31), (31, .dup, 32), (32, .getfield 32, 35), (35, .iconst 1, 36), (36, .iadd, 37), (37, .putfield 32, 40)]), (47, [(40, .aload_n 0, 41), (41, .getfield 19, 44), (44, .iload_n 1, 45), (45, .iaload, 46), (46, .ireturn, 47)])]
def tb_72 : List (Nat × List xm_I) := [(13, [(0, .iload_n 3, 1), (1, .iconst (-1), 2), (2, .if_icmp .eq 9, 5), (5, .iload 4, 7), (7, .iconst (-1), 8), (8, .if_icmp .ne 4, 11), (11, .return_, 12), (12, .iload_n 1, 13)]), (24, [(13, .iconst 4, 14), (14, .imul, 15), (15, .iload_n 2, 16), (16, .iadd, 17), (17, .istore 5, 19), (19, .aload_n 0, 20), (20, .getfield 22, 23), (23, .iload 5, 25)]), (40, [(25, .aload_n 0, 26), (26, .getfield 9, 29), (29, .iconst 1, 30), (30, .if_icmp .ne 8, 33), (33, .iload 4, 35), (35, .goto 4, 38), (38, .iload_n 3, 39), (39, .iastore, 40)]), (53, [(40, .aload_n 0, 41), (41, .getfield 25, 44), (44, .iload 5, 46), (46, .aload_n 0, 47), (47, .aload_n 0, 48), (48, .getfield 28, 51), (51, .aload_n 0, 52), (52, .getfield 15, 55)]), (68, [(55, .iload_n 1, 56), (56, .iaload, 57), (57, .iload_n 3, 58), (58, .iload 4, 60), (60, .invokevirtual 72, 63), (63, .invokevirtual 69, 66), (66, .iastore, 67), (67, .return_, 68)])]
def tb_73 : List (Nat × List xm_I) := [(10, [(0, .aload_n 0, 1), (1, .iconst 2, 2), (2, .invokevirtual 41, 5), (5, .iconst 0, 6), (6, .istore_n 1, 7), (7, .iload_n 1, 8), (8, .aload_n 0, 9), (9, .getfield 32, 12)]), (27, [(12, .if_icmp .ge 50, 15), (15, .iload_n 1, 16), (16, .bipush 100, 18), (18, .if_icmp .ge 44, 21), (21, .aload_n 0, 22), (22, .getfield 28, 25), (25, .aload_n 0, 26), (26, .getfield 15, 29)]), (39, [(29, .iload_n 1, 30), (30, .iaload, 31), (31, .invokevirtual 55, 34), (34, .istore_n 2, 35), (35, .iconst 0, 36), (36, .istore_n 3, 37), (37, .iload_n 3, 38), (38, .iconst 4, 39)]), (51, [(39, .if_icmp .ge 17, 42), (42, .aload_n 0, 43), (43, .iload_n 1, 44), (44, .iload_n 3, 45), (45, .iload_n 2, 46), (46, .iload_n 3, 47), (47, .invokevirtual 51, 50), (50, .iinc 3 1, 53)]), (63, [(53, .goto (-16), 56), (56, .iinc 1 1, 59), (59, .goto (-52), 62), (62, .return_, 63)])]
def tb_74 : List (Nat × List xm_I) := [(38, [(0, .iload_n 1, 1), (1, .tableswitch 51 0 2 #[27, 35, 43], 28), (28, .aload_n 0, 29), (29, .getfield 55, 32), (32, .getfield 116, 35), (35, .ireturn, 36), (36, .aload_n 0, 37), (37, .getfield 55, 40)]), (54, [(40, .getfield 117, 43), (43, .ireturn, 44), (44, .aload_n 0, 45), (45, .getfield 55, 48), (48, .getfield 120, 51), (51, .ireturn, 52), (52, .iconst (-1), 53), (53, .ireturn, 54)])]
def tb_75 : List (Nat × List xm_I) := [(14, [(0, .aload_n 0, 1), (1, .getfield 55, 4), (4, .iload_n 1, 5), (5, .invokevirtual 123, 8), (8, .ifCond .ne 5, 11), (11, .iconst (-1), 12), (12, .ireturn, 13), (13, .aload_n 0, 14)]), (32, [(14, .getfield 55, 17), (17, .getfield 124, 20), (20, .iconst 2, 21), (21, .if_icmp .ne 15, 24), (24, .aload_n 0, 25), (25, .getfield 55, 28), (28, .getfield 127, 31), (31, .iload_n 1, 32)]), (44, [(32, .iconst 4, 33), (33, .imul, 34), (34, .iaload, 35), (35, .ireturn, 36), (36, .iload_n 2, 37), (37, .invokestatic 131, 40), (40, .ifCond .eq 19, 43), (43, .aload_n 0, 44)]), (56, [(44, .getfield 55, 47), (47, .getfield 127, 50), (50, .iload_n 1, 51), (51, .iconst 4, 52), (52, .imul, 53), (53, .iload_n 2, 54), (54, .iadd, 55), (55, .iaload, 56)]), (61, [(56, .goto 4, 59), (59, .iconst (-1), 60), (60, .ireturn, 61)])]
def tb_76 : List (Nat × List xm_I) := [(14, [(0, .iload_n 1, 1), (1, .ifCond .lt 15, 4), (4, .iload_n 1, 5), (5, .aload_n 0, 6), (6, .getfield 32, 9), (9, .if_icmp .ge 7, 12), (12, .iconst 1, 13), (13, .goto 4, 16)]), (18, [(16, .iconst 0, 17), (17, .ireturn, 18)])]
def tb_77 : List (Nat × List xm_I) := [(14, [(0, .iload_n 0, 1), (1, .ifCond .lt 12, 4), (4, .iload_n 0, 5), (5, .iconst 4, 6), (6, .if_icmp .ge 7, 9), (9, .iconst 1, 10), (10, .goto 4, 13), (13, .iconst 0, 14)]), (15, [(14, .ireturn, 15)])]
def tb_78 : List (Nat × List xm_I) := [(16, [(0, .aload_n 0, 1), (1, .getfield 55, 4), (4, .iload_n 1, 5), (5, .invokevirtual 123, 8), (8, .ifCond .eq 26, 11), (11, .iload_n 2, 12), (12, .invokestatic 131, 15), (15, .ifCond .eq 19, 18)]), (30, [(18, .aload_n 0, 19), (19, .getfield 55, 22), (22, .getfield 134, 25), (25, .iload_n 1, 26), (26, .iconst 4, 27), (27, .imul, 28), (28, .iload_n 2, 29), (29, .iadd, 30)]), (36, [(30, .iaload, 31), (31, .goto 4, 34), (34, .iconst (-1), 35), (35, .ireturn, 36)])]
def tb_79 : List (Nat × List xm_I) := [(14, [(0, .aload_n 0, 1), (1, .invokespecial 1, 4), (4, .aload_n 0, 5), (5, .bipush 28, 7), (7, .newarray .int, 9), (9, .putfield 7, 12), (12, .aload_n 0, 13), (13, .bipush 28, 15)]), (30, [(15, .newarray .int, 17), (17, .putfield 13, 20), (20, .aload_n 0, 21), (21, .bipush 28, 23), (23, .newarray .int, 25), (25, .putfield 16, 28), (28, .aload_n 0, 29), (29, .bipush 28, 31)]), (46, [(31, .newarray .int, 33), (33, .putfield 19, 36), (36, .aload_n 0, 37), (37, .bipush 60, 39), (39, .newarray .int, 41), (41, .putfield 22, 44), (44, .aload_n 0, 45), (45, .sipush 1680, 48)]), (63, [(48, .newarray .long, 50), (50, .putfield 25, 53), (53, .aload_n 0, 54), (54, .bipush 28, 56), (56, .newarray .int, 58), (58, .putfield 29, 61), (61, .aload_n 0, 62), (62, .bipush 61, 64)]), (79, [(64, .newarray .long, 66), (66, .putfield 32, 69), (69, .aload_n 0, 70), (70, .bipush 61, 72), (72, .newarray .long, 74), (74, .putfield 35, 77), (77, .aload_n 0, 78), (78, .bipush 17, 80)]), (95, [(80, .newarray .int, 82), (82, .putfield 38, 85), (85, .aload_n 0, 86), (86, .bipush 17, 88), (88, .newarray .int, 90), (90, .putfield 41, 93), (93, .aload_n 0, 94), (94, .sipush 272, 97)]), (113, [(97, .newarray .int, 99), (99, .putfield 44, 102), (102, .aload_n 0, 103), (103, .sipush 272, 106), (106, .newarray .int, 108), (108, .putfield 47, 111), (111, .aload_n 0, 112), (112, .bipush 28, 114)]), (129, [(114, .newarray .int, 116), (116, .putfield 50, 119), (119, .aload_n 0, 120), (120, .bipush 101, 122), (122, .newarray .long, 124), (124, .putfield 53, 127), (127, .aload_n 0, 128), (128, .sipush 1600, 131)]), (146, [(131, .newarray .int, 133), (133, .putfield 56, 136), (136, .aload_n 0, 137), (137, .bipush 100, 139), (139, .newarray .boolean, 141), (141, .putfield 59, 144), (144, .aload_n 0, 145), (145, .bipush 100, 147)]), (162, [(147, .newarray .int, 149), (149, .putfield 63, 152), (152, .aload_n 0, 153), (153, .bipush 100, 155), (155, .newarray .int, 157), (157, .putfield 66, 160), (160, .aload_n 0, 161), (161, .sipush 400, 164)]), (180, [(164, .newarray .int, 166), (166, .putfield 69, 169), (169, .aload_n 0, 170), (170, .sipush 400, 173), (173, .newarray .int, 175), (175, .putfield 72, 178), (178, .aload_n 0, 179), (179, .bipush 28, 181)]), (187, [(181, .newarray .int, 183), (183, .putfield 75, 186), (186, .return_, 187)])]
def tb_80 : List (Nat × List xm_I) := [(13, [(0, .iload_n 1, 1), (1, .ifCond .lt 9, 4), (4, .iload_n 1, 5), (5, .bipush 8, 7), (7, .if_icmp .le 5, 10), (10, .iconst (-1), 11), (11, .ireturn, 12), (12, .iload_n 1, 13)]), (27, [(13, .iconst 2, 14), (14, .if_icmp .eq 8, 17), (17, .iload_n 1, 18), (18, .iconst 3, 19), (19, .if_icmp .ne 14, 22), (22, .iload_n 2, 23), (23, .ifCond .lt 8, 26), (26, .iload_n 2, 27)]), (39, [(27, .iconst 3, 28), (28, .if_icmp .le 5, 31), (31, .iconst (-1), 32), (32, .ireturn, 33), (33, .iload_n 1, 34), (34, .iconst 3, 35), (35, .if_icmp .le 11, 38), (38, .aload_n 0, 39)]), (55, [(39, .iload_n 2, 40), (40, .invokevirtual 82, 43), (43, .ifCond .eq 18, 46), (46, .iload_n 1, 47), (47, .invokestatic 86, 50), (50, .ifCond .eq 13, 53), (53, .aload_n 0, 54), (54, .iload_n 3, 55)]), (67, [(55, .invokevirtual 82, 58), (58, .ifCond .ne 5, 61), (61, .iconst (-1), 62), (62, .ireturn, 63), (63, .aload_n 0, 64), (64, .iload_n 1, 65), (65, .iload_n 1, 66), (66, .iconst 1, 67)]), (83, [(67, .if_icmp .le 7, 70), (70, .iload_n 2, 71), (71, .goto 4, 74), (74, .iconst 0, 75), (75, .iload_n 1, 76), (76, .invokestatic 86, 79), (79, .ifCond .eq 7, 82), (82, .iload_n 3, 83)]), (91, [(83, .goto 4, 86), (86, .iconst 0, 87), (87, .invokevirtual 89, 90), (90, .ireturn, 91)])]
def tb_81 : List (Nat × List xm_I) := [(14, [(0, .iload_n 1, 1), (1, .ifCond .lt 15, 4), (4, .iload_n 1, 5), (5, .aload_n 0, 6), (6, .getfield 78, 9), (9, .if_icmp .ge 7, 12), (12, .iconst 1, 13), (13, .goto 4, 16)]), (18, [(16, .iconst 0, 17), (17, .ireturn, 18)])]
def tb_82 : List (Nat × List xm_I) := [(12, [(0, .iload_n 0, 1), (1, .iconst 4, 2), (2, .if_icmp .eq 20, 5), (5, .iload_n 0, 6), (6, .iconst 5, 7), (7, .if_icmp .eq 15, 10), (10, .iload_n 0, 11), (11, .bipush 7, 13)]), (28, [(13, .if_icmp .eq 9, 16), (16, .iload_n 0, 17), (17, .bipush 8, 19), (19, .if_icmp .ne 7, 22), (22, .iconst 1, 23), (23, .goto 4, 26), (26, .iconst 0, 27), (27, .ireturn, 28)])]
def tb_83 : List (Nat × List xm_I) := [(14, [(0, .iconst 0, 1), (1, .istore 4, 3), (3, .iload 4, 5), (5, .aload_n 0, 6), (6, .getfield 78, 9), (9, .if_icmp .ge 45, 12), (12, .aload_n 0, 13), (13, .getfield 7, 16)]), (30, [(16, .iload 4, 18), (18, .iaload, 19), (19, .iload_n 1, 20), (20, .if_icmp .ne 28, 23), (23, .aload_n 0, 24), (24, .getfield 13, 27), (27, .iload 4, 29), (29, .iaload, 30)]), (43, [(30, .iload_n 2, 31), (31, .if_icmp .ne 17, 34), (34, .aload_n 0, 35), (35, .getfield 16, 38), (38, .iload 4, 40), (40, .iaload, 41), (41, .iload_n 3, 42), (42, .if_icmp .ne 6, 45)]), (61, [(45, .iload 4, 47), (47, .ireturn, 48), (48, .iinc 4 1, 51), (51, .goto (-48), 54), (54, .aload_n 0, 55), (55, .getfield 78, 58), (58, .bipush 28, 60), (60, .if_icmp .ne 6, 63)]), (76, [(63, .bipush (-2), 65), (65, .ireturn, 66), (66, .aload_n 0, 67), (67, .getfield 7, 70), (70, .aload_n 0, 71), (71, .getfield 78, 74), (74, .iload_n 1, 75), (75, .iastore, 76)]), (88, [(76, .aload_n 0, 77), (77, .getfield 13, 80), (80, .aload_n 0, 81), (81, .getfield 78, 84), (84, .iload_n 2, 85), (85, .iastore, 86), (86, .aload_n 0, 87), (87, .getfield 16, 90)]), (102, [(90, .aload_n 0, 91), (91, .getfield 78, 94), (94, .iload_n 3, 95), (95, .iastore, 96), (96, .aload_n 0, 97), (97, .dup, 98), (98, .getfield 78, 101), (101, .iconst 1, 102)]), (113, [(102, .iadd, 103), (103, .putfield 78, 106), (106, .aload_n 0, 107), (107, .getfield 78, 110), (110, .iconst 1, 111), (111, .isub, 112), (112, .ireturn, 113)])]
def tb_84 : List (Nat × List xm_I) := [(12, [(0, .aload_n 0, 1), (1, .iload_n 1, 2), (2, .invokevirtual 82, 5), (5, .ifCond .ne 5, 8), (8, .iconst (-1), 9), (9, .ireturn, 10), (10, .iconst 0, 11), (11, .istore_n 2, 12)]), (25, [(12, .iload_n 2, 13), (13, .bipush 28, 15), (15, .if_icmp .ge 16, 18), (18, .aload_n 0, 19), (19, .getfield 19, 22), (22, .iload_n 2, 23), (23, .iconst (-1), 24), (24, .iastore, 25)]), (39, [(25, .iinc 2 1, 28), (28, .goto (-16), 31), (31, .iconst 1, 32), (32, .istore_n 2, 33), (33, .aload_n 0, 34), (34, .getfield 22, 37), (37, .iconst 0, 38), (38, .iload_n 1, 39)]), (51, [(39, .iastore, 40), (40, .iload_n 2, 41), (41, .ifCond .le 232, 44), (44, .aload_n 0, 45), (45, .getfield 22, 48), (48, .iload_n 2, 49), (49, .iconst 1, 50), (50, .isub, 51)]), (61, [(51, .iaload, 52), (52, .istore_n 3, 53), (53, .aload_n 0, 54), (54, .getfield 7, 57), (57, .iload_n 3, 58), (58, .iaload, 59), (59, .iconst 3, 60), (60, .if_icmp .le 21, 63)]), (75, [(63, .aload_n 0, 64), (64, .getfield 19, 67), (67, .aload_n 0, 68), (68, .getfield 13, 71), (71, .iload_n 3, 72), (72, .iaload, 73), (73, .iaload, 74), (74, .ifCond .ge 7, 77)]), (90, [(77, .iconst 1, 78), (78, .goto 4, 81), (81, .iconst 0, 82), (82, .istore 4, 84), (84, .aload_n 0, 85), (85, .getfield 7, 88), (88, .iload_n 3, 89), (89, .iaload, 90)]), (106, [(90, .invokestatic 86, 93), (93, .ifCond .eq 21, 96), (96, .aload_n 0, 97), (97, .getfield 19, 100), (100, .aload_n 0, 101), (101, .getfield 16, 104), (104, .iload_n 3, 105), (105, .iaload, 106)]), (119, [(106, .iaload, 107), (107, .ifCond .ge 7, 110), (110, .iconst 1, 111), (111, .goto 4, 114), (114, .iconst 0, 115), (115, .istore 5, 117), (117, .aload_n 0, 118), (118, .getfield 19, 121)]), (138, [(121, .iload_n 3, 122), (122, .iaload, 123), (123, .ifCond .lt 9, 126), (126, .iinc 2 (-1), 129), (129, .goto 141, 132), (132, .iload 4, 134), (134, .ifCond .ne 8, 137), (137, .iload 5, 139)]), (154, [(139, .ifCond .eq 35, 142), (142, .aload_n 0, 143), (143, .getfield 22, 146), (146, .iload_n 2, 147), (147, .iload 4, 149), (149, .ifCond .eq 12, 152), (152, .aload_n 0, 153), (153, .getfield 13, 156)]), (168, [(156, .iload_n 3, 157), (157, .iaload, 158), (158, .goto 9, 161), (161, .aload_n 0, 162), (162, .getfield 16, 165), (165, .iload_n 3, 166), (166, .iaload, 167), (167, .iastore, 168)]), (182, [(168, .iinc 2 1, 171), (171, .goto 99, 174), (174, .aload_n 0, 175), (175, .getfield 7, 178), (178, .iload_n 3, 179), (179, .iaload, 180), (180, .iconst 3, 181), (181, .if_icmp .le 17, 184)]), (196, [(184, .aload_n 0, 185), (185, .getfield 19, 188), (188, .aload_n 0, 189), (189, .getfield 13, 192), (192, .iload_n 3, 193), (193, .iaload, 194), (194, .iaload, 195), (195, .goto 9, 198)]), (211, [(198, .aload_n 0, 199), (199, .getfield 13, 202), (202, .iload_n 3, 203), (203, .iaload, 204), (204, .istore 6, 206), (206, .aload_n 0, 207), (207, .getfield 7, 210), (210, .iload_n 3, 211)]), (227, [(211, .iaload, 212), (212, .invokestatic 86, 215), (215, .ifCond .eq 17, 218), (218, .aload_n 0, 219), (219, .getfield 19, 222), (222, .aload_n 0, 223), (223, .getfield 16, 226), (226, .iload_n 3, 227)]), (238, [(227, .iaload, 228), (228, .iaload, 229), (229, .goto 4, 232), (232, .iconst 0, 233), (233, .istore 7, 235), (235, .aload_n 0, 236), (236, .aload_n 0, 237), (237, .getfield 7, 240)]), (255, [(240, .iload_n 3, 241), (241, .iaload, 242), (242, .invokestatic 93, 245), (245, .iload 6, 247), (247, .iload 7, 249), (249, .invokevirtual 89, 252), (252, .istore 8, 254), (254, .iload 8, 256)]), (270, [(256, .ifCond .ge 6, 259), (259, .bipush (-2), 261), (261, .ireturn, 262), (262, .aload_n 0, 263), (263, .getfield 19, 266), (266, .iload_n 3, 267), (267, .iload 8, 269), (269, .iastore, 270)]), (280, [(270, .goto (-230), 273), (273, .aload_n 0, 274), (274, .getfield 19, 277), (277, .iload_n 1, 278), (278, .iaload, 279), (279, .ireturn, 280)])]
def tb_85 : List (Nat × List xm_I) := [(58, [(0, .iload_n 0, 1), (1, .tableswitch 69 0 8 #[51, 53, 55, 57, 59, 61, 69, 63, 66], 52), (52, .iconst 1, 53), (53, .ireturn, 54), (54, .iconst 0, 55), (55, .ireturn, 56), (56, .iconst 3, 57), (57, .ireturn, 58)]), (67, [(58, .iconst 2, 59), (59, .ireturn, 60), (60, .iconst 5, 61), (61, .ireturn, 62), (62, .iconst 4, 63), (63, .ireturn, 64), (64, .bipush 8, 66), (66, .ireturn, 67)]), (73, [(67, .bipush 7, 69), (69, .ireturn, 70), (70, .bipush 6, 72), (72, .ireturn, 73)])]
def tb_86 : List (Nat × List xm_I) := [(5, [(0, .aload_n 0, 1), (1, .getfield 78, 4), (4, .ireturn, 5)])]
def tb_87 : List (Nat × List xm_I) := [(16, [(0, .aload_n 0, 1), (1, .iload_n 1, 2), (2, .invokevirtual 82, 5), (5, .ifCond .eq 28, 8), (8, .iload 4, 10), (10, .ifCond .lt 23, 13), (13, .iload 4, 15), (15, .bipush 8, 17)]), (34, [(17, .if_icmp .gt 16, 20), (20, .iload 7, 22), (22, .iconst 1, 23), (23, .if_icmp .lt 10, 26), (26, .iload 7, 28), (28, .bipush 8, 30), (30, .if_icmp .le 5, 33), (33, .iconst (-1), 34)]), (46, [(34, .ireturn, 35), (35, .iload 4, 37), (37, .iload 7, 39), (39, .iadd, 40), (40, .istore 8, 42), (42, .iconst 1, 43), (43, .iload 8, 45), (45, .ishl, 46)]), (57, [(46, .iconst 1, 47), (47, .isub, 48), (48, .istore 9, 50), (50, .iconst 0, 51), (51, .istore 10, 53), (53, .iload 10, 55), (55, .iload_n 1, 56), (56, .if_icmp .gt 345, 59)]), (72, [(59, .aload_n 0, 60), (60, .getfield 7, 63), (63, .iload 10, 65), (65, .iaload, 66), (66, .iconst 3, 67), (67, .if_icmp .le 18, 70), (70, .aload_n 0, 71), (71, .getfield 75, 74)]), (87, [(74, .aload_n 0, 75), (75, .getfield 13, 78), (78, .iload 10, 80), (80, .iaload, 81), (81, .iaload, 82), (82, .goto 4, 85), (85, .iconst 0, 86), (86, .istore 11, 88)]), (103, [(88, .aload_n 0, 89), (89, .getfield 7, 92), (92, .iload 10, 94), (94, .iaload, 95), (95, .invokestatic 86, 98), (98, .ifCond .eq 18, 101), (101, .aload_n 0, 102), (102, .getfield 75, 105)]), (118, [(105, .aload_n 0, 106), (106, .getfield 16, 109), (109, .iload 10, 111), (111, .iaload, 112), (112, .iaload, 113), (113, .goto 4, 116), (116, .iconst 0, 117), (117, .istore 12, 119)]), (133, [(119, .iconst 0, 120), (120, .istore 13, 122), (122, .iconst 0, 123), (123, .istore 14, 125), (125, .iload 14, 127), (127, .iload 8, 129), (129, .if_icmp .ge 82, 132), (132, .aload_n 0, 133)]), (148, [(133, .getfield 7, 136), (136, .iload 10, 138), (138, .iaload, 139), (139, .iconst 2, 140), (140, .if_icmp .eq 14, 143), (143, .aload_n 0, 144), (144, .getfield 7, 147), (147, .iload 10, 149)]), (161, [(149, .iaload, 150), (150, .iconst 3, 151), (151, .if_icmp .ne 60, 154), (154, .aload_n 0, 155), (155, .lload_n 2, 156), (156, .iload 4, 158), (158, .lload 5, 160), (160, .iload 14, 162)]), (175, [(162, .invokevirtual 102, 165), (165, .aload_n 0, 166), (166, .getfield 13, 169), (169, .iload 10, 171), (171, .iaload, 172), (172, .ishr, 173), (173, .iconst 1, 174), (174, .iand, 175)]), (188, [(175, .istore 15, 177), (177, .iload 13, 179), (179, .aload_n 0, 180), (180, .getfield 7, 183), (183, .iload 10, 185), (185, .iaload, 186), (186, .iconst 2, 187), (187, .if_icmp .ne 8, 190)]), (203, [(190, .iload 15, 192), (192, .goto 7, 195), (195, .iconst 1, 196), (196, .iload 15, 198), (198, .isub, 199), (199, .iload 14, 201), (201, .ishl, 202), (202, .ior, 203)]), (219, [(203, .istore 13, 205), (205, .iinc 14 1, 208), (208, .goto (-83), 211), (211, .aload_n 0, 212), (212, .getfield 7, 215), (215, .iload 10, 217), (217, .iaload, 218), (218, .tableswitch 168 0 8 #[50, 62, 168, 168, 73, 88, 103, 122, 145], 268)]), (282, [(268, .aload_n 0, 269), (269, .getfield 75, 272), (272, .iload 10, 274), (274, .iload 9, 276), (276, .iastore, 277), (277, .goto 118, 280), (280, .aload_n 0, 281), (281, .getfield 75, 284)]), (298, [(284, .iload 10, 286), (286, .iconst 0, 287), (287, .iastore, 288), (288, .goto 107, 291), (291, .aload_n 0, 292), (292, .getfield 75, 295), (295, .iload 10, 297), (297, .iload 11, 299)]), (313, [(299, .iload 12, 301), (301, .iand, 302), (302, .iastore, 303), (303, .goto 92, 306), (306, .aload_n 0, 307), (307, .getfield 75, 310), (310, .iload 10, 312), (312, .iload 11, 314)]), (328, [(314, .iload 12, 316), (316, .ior, 317), (317, .iastore, 318), (318, .goto 77, 321), (321, .aload_n 0, 322), (322, .getfield 75, 325), (325, .iload 10, 327), (327, .iload 11, 329)]), (345, [(329, .iload 4, 331), (331, .iload 8, 333), (333, .invokestatic 99, 336), (336, .iastore, 337), (337, .goto 58, 340), (340, .aload_n 0, 341), (341, .getfield 75, 344), (344, .iload 10, 346)]), (360, [(346, .aload_n 0, 347), (347, .iload 11, 349), (349, .iload 12, 351), (351, .iconst 1, 352), (352, .iload 4, 354), (354, .iload 8, 356), (356, .invokevirtual 106, 359), (359, .iastore, 360)]), (375, [(360, .goto 35, 363), (363, .aload_n 0, 364), (364, .getfield 75, 367), (367, .iload 10, 369), (369, .aload_n 0, 370), (370, .iload 11, 372), (372, .iload 12, 374), (374, .iconst 0, 375)]), (391, [(375, .iload 4, 377), (377, .iload 8, 379), (379, .invokevirtual 106, 382), (382, .iastore, 383), (383, .goto 12, 386), (386, .aload_n 0, 387), (387, .getfield 75, 390), (390, .iload 10, 392)]), (407, [(392, .iload 13, 394), (394, .iastore, 395), (395, .iinc 10 1, 398), (398, .goto (-345), 401), (401, .aload_n 0, 402), (402, .getfield 75, 405), (405, .iload_n 1, 406), (406, .iaload, 407)]), (410, [(407, .iconst 1, 408), (408, .iand, 409), (409, .ireturn, 410)])]
def tb_88 : List (Nat × List xm_I) := [(12, [(0, .iload 6, 2), (2, .iload_n 3, 3), (3, .if_icmp .ge 16, 6), (6, .lload_n 1, 7), (7, .iconst 4, 8), (8, .iload 6, 10), (10, .imul, 11), (11, .lshr, 12)]), (26, [(12, .ldc2_w 97, 15), (15, .land, 16), (16, .goto 16, 19), (19, .lload 4, 21), (21, .iconst 4, 22), (22, .iload 6, 24), (24, .iload_n 3, 25), (25, .isub, 26)]), (34, [(26, .imul, 27), (27, .lshr, 28), (28, .ldc2_w 97, 31), (31, .land, 32), (32, .l2i, 33), (33, .ireturn, 34)])]
def tb_89 : List (Nat × List xm_I) := [(8, [(0, .iload_n 0, 1), (1, .iload_n 1, 2), (2, .ishr, 3), (3, .iconst 1, 4), (4, .iand, 5), (5, .iload_n 2, 6), (6, .iconst 1, 7), (7, .isub, 8)]), (16, [(8, .ishl, 9), (9, .istore_n 3, 10), (10, .iload_n 0, 11), (11, .iconst 1, 12), (12, .ishr, 13), (13, .iconst 1, 14), (14, .iload_n 2, 15), (15, .iconst 1, 16)]), (24, [(16, .isub, 17), (17, .ishl, 18), (18, .iconst 1, 19), (19, .isub, 20), (20, .iand, 21), (21, .iload_n 3, 22), (22, .ior, 23), (23, .ireturn, 24)])]
def tb_90 : List (Nat × List xm_I) := [(13, [(0, .iload_n 3, 1), (1, .ifCond .eq 7, 4), (4, .iconst 0, 5), (5, .goto 9, 8), (8, .iconst 1, 9), (9, .iload 5, 11), (11, .ishl, 12), (12, .iconst 1, 13)]), (27, [(13, .isub, 14), (14, .istore 6, 16), (16, .iconst 0, 17), (17, .istore 7, 19), (19, .iload 7, 21), (21, .iload 5, 23), (23, .if_icmp .gt 44, 26), (26, .iload_n 3, 27)]), (42, [(27, .ifCond .eq 19, 30), (30, .iload_n 2, 31), (31, .iload_n 1, 32), (32, .iload 6, 34), (34, .iload 4, 36), (36, .iload 5, 38), (38, .invokestatic 99, 41), (41, .iand, 42)]), (55, [(42, .ior, 43), (43, .goto 16, 46), (46, .iload_n 2, 47), (47, .iload_n 1, 48), (48, .iload 6, 50), (50, .iload 4, 52), (52, .iload 5, 54), (54, .invokestatic 99, 57)]), (70, [(57, .ior, 58), (58, .iand, 59), (59, .istore 6, 61), (61, .iinc 7 1, 64), (64, .goto (-45), 67), (67, .iload 6, 69), (69, .ireturn, 70)])]
def tb_91 : List (Nat × List xm_I) := [(14, [(0, .aload_n 0, 1), (1, .iload_n 1, 2), (2, .invokevirtual 82, 5), (5, .ifCond .eq 13, 8), (8, .iload_n 2, 9), (9, .ifCond .lt 9, 12), (12, .iload_n 2, 13), (13, .bipush 15, 15)]), (27, [(15, .if_icmp .le 5, 18), (18, .iconst (-1), 19), (19, .ireturn, 20), (20, .aload_n 0, 21), (21, .iload_n 1, 22), (22, .iload_n 2, 23), (23, .invokevirtual 126, 26), (26, .aload_n 0, 27)]), (43, [(27, .getfield 29, 30), (30, .iload_n 1, 31), (31, .iaload, 32), (32, .bipush 60, 34), (34, .if_icmp .le 8, 37), (37, .bipush (-2), 39), (39, .goto 9, 42), (42, .aload_n 0, 43)]), (49, [(43, .getfield 29, 46), (46, .iload_n 1, 47), (47, .iaload, 48), (48, .ireturn, 49)])]
def tb_92 : List (Nat × List xm_I) := [(10, [(0, .iconst 0, 1), (1, .istore_n 3, 2), (2, .iload_n 3, 3), (3, .iload_n 1, 4), (4, .if_icmp .gt 15, 7), (7, .aload_n 0, 8), (8, .iload_n 3, 9), (9, .iload_n 2, 10)]), (20, [(10, .invokevirtual 122, 13), (13, .iinc 3 1, 16), (16, .goto (-14), 19), (19, .return_, 20)])]
def tb_93 : List (Nat × List xm_I) := [(12, [(0, .aload_n 0, 1), (1, .getfield 29, 4), (4, .iload_n 1, 5), (5, .iconst 0, 6), (6, .iastore, 7), (7, .aload_n 0, 8), (8, .getfield 13, 11), (11, .iload_n 1, 12)]), (23, [(12, .iaload, 13), (13, .istore_n 3, 14), (14, .aload_n 0, 15), (15, .getfield 16, 18), (18, .iload_n 1, 19), (19, .iaload, 20), (20, .istore 4, 22), (22, .aload_n 0, 23)]), (84, [(23, .getfield 7, 26), (26, .iload_n 1, 27), (27, .iaload, 28), (28, .tableswitch 212 0 8 #[52, 212, 61, 79, 96, 107, 125, 164, 191], 80), (80, .aload_n 0, 81), (81, .iload_n 1, 82), (82, .lconst 0, 83), (83, .invokevirtual 110, 86)]), (96, [(86, .goto 154, 89), (89, .iload_n 2, 90), (90, .iload_n 3, 91), (91, .ishr, 92), (92, .iconst 1, 93), (93, .iand, 94), (94, .iconst 1, 95), (95, .if_icmp .ne 145, 98)]), (110, [(98, .aload_n 0, 99), (99, .iload_n 1, 100), (100, .lconst 0, 101), (101, .invokevirtual 110, 104), (104, .goto 136, 107), (107, .iload_n 2, 108), (108, .iload_n 3, 109), (109, .ishr, 110)]), (122, [(110, .iconst 1, 111), (111, .iand, 112), (112, .ifCond .ne 128, 115), (115, .aload_n 0, 116), (116, .iload_n 1, 117), (117, .lconst 0, 118), (118, .invokevirtual 110, 121), (121, .goto 119, 124)]), (137, [(124, .aload_n 0, 125), (125, .iload_n 1, 126), (126, .iload_n 3, 127), (127, .iload 4, 129), (129, .invokevirtual 114, 132), (132, .goto 108, 135), (135, .aload_n 0, 136), (136, .iload_n 1, 137)]), (148, [(137, .iload_n 3, 138), (138, .lconst 0, 139), (139, .invokevirtual 118, 142), (142, .aload_n 0, 143), (143, .iload_n 1, 144), (144, .iload 4, 146), (146, .lconst 0, 147), (147, .invokevirtual 118, 150)]), (162, [(150, .goto 90, 153), (153, .aload_n 0, 154), (154, .iload_n 1, 155), (155, .lconst 1, 156), (156, .iload_n 3, 157), (157, .lshl, 158), (158, .invokevirtual 110, 161), (161, .aload_n 0, 162)]), (175, [(162, .getfield 29, 165), (165, .iload_n 1, 166), (166, .aload_n 0, 167), (167, .getfield 29, 170), (170, .iload_n 3, 171), (171, .iaload, 172), (172, .bipush 60, 174), (174, .if_icmp .le 8, 177)]), (190, [(177, .bipush 61, 179), (179, .goto 9, 182), (182, .aload_n 0, 183), (183, .getfield 29, 186), (186, .iload_n 1, 187), (187, .iaload, 188), (188, .iastore, 189), (189, .goto 51, 192)]), (203, [(192, .aload_n 0, 193), (193, .iload_n 1, 194), (194, .iload 4, 196), (196, .lconst 0, 197), (197, .invokevirtual 118, 200), (200, .aload_n 0, 201), (201, .iload_n 1, 202), (202, .iload_n 3, 203)]), (212, [(203, .lconst 1, 204), (204, .iload_n 1, 205), (205, .lshl, 206), (206, .lconst 1, 207), (207, .iload_n 1, 208), (208, .bipush 28, 210), (210, .iadd, 211), (211, .lshl, 212)]), (225, [(212, .lor, 213), (213, .invokevirtual 118, 216), (216, .goto 24, 219), (219, .aload_n 0, 220), (220, .iload_n 1, 221), (221, .iload 4, 223), (223, .iload_n 3, 224), (224, .invokevirtual 114, 227)]), (238, [(227, .aload_n 0, 228), (228, .iload_n 1, 229), (229, .iload 4, 231), (231, .lconst 1, 232), (232, .iload_n 1, 233), (233, .lshl, 234), (234, .invokevirtual 118, 237), (237, .goto 3, 240)]), (241, [(240, .return_, 241)])]
def tb_94 : List (Nat × List xm_I) := [(13, [(0, .aload_n 0, 1), (1, .getfield 29, 4), (4, .iload_n 1, 5), (5, .iaload, 6), (6, .bipush 60, 8), (8, .if_icmp .le 4, 11), (11, .return_, 12), (12, .iconst 0, 13)]), (27, [(13, .istore 4, 15), (15, .iload 4, 17), (17, .aload_n 0, 18), (18, .getfield 29, 21), (21, .iload_n 1, 22), (22, .iaload, 23), (23, .if_icmp .ge 27, 26), (26, .aload_n 0, 27)]), (39, [(27, .getfield 25, 30), (30, .bipush 60, 32), (32, .iload_n 1, 33), (33, .imul, 34), (34, .iload 4, 36), (36, .iadd, 37), (37, .laload, 38), (38, .lload_n 2, 39)]), (55, [(39, .lcmp, 40), (40, .ifCond .ne 4, 43), (43, .return_, 44), (44, .iinc 4 1, 47), (47, .goto (-32), 50), (50, .aload_n 0, 51), (51, .getfield 29, 54), (54, .iload_n 1, 55)]), (69, [(55, .iaload, 56), (56, .bipush 60, 58), (58, .if_icmp .ge 20, 61), (61, .aload_n 0, 62), (62, .getfield 25, 65), (65, .bipush 60, 67), (67, .iload_n 1, 68), (68, .imul, 69)]), (79, [(69, .aload_n 0, 70), (70, .getfield 29, 73), (73, .iload_n 1, 74), (74, .iaload, 75), (75, .iadd, 76), (76, .lload_n 2, 77), (77, .lastore, 78), (78, .aload_n 0, 79)]), (89, [(79, .getfield 29, 82), (82, .iload_n 1, 83), (83, .dup2, 84), (84, .iaload, 85), (85, .iconst 1, 86), (86, .iadd, 87), (87, .iastore, 88), (88, .return_, 89)])]
def tb_95 : List (Nat × List xm_I) := [(13, [(0, .aload_n 0, 1), (1, .getfield 29, 4), (4, .iload_n 2, 5), (5, .iaload, 6), (6, .bipush 60, 8), (8, .if_icmp .gt 18, 11), (11, .aload_n 0, 12), (12, .getfield 29, 15)]), (28, [(15, .iload_n 3, 16), (16, .iaload, 17), (17, .bipush 60, 19), (19, .if_icmp .gt 7, 22), (22, .iconst 1, 23), (23, .goto 4, 26), (26, .iconst 0, 27), (27, .istore 4, 29)]), (41, [(29, .iconst 0, 30), (30, .istore 5, 32), (32, .iload 5, 34), (34, .aload_n 0, 35), (35, .getfield 29, 38), (38, .iload_n 2, 39), (39, .iaload, 40), (40, .if_icmp .ge 64, 43)]), (58, [(43, .iload 4, 45), (45, .ifCond .eq 59, 48), (48, .iconst 0, 49), (49, .istore 6, 51), (51, .iload 6, 53), (53, .aload_n 0, 54), (54, .getfield 29, 57), (57, .iload_n 3, 58)]), (71, [(58, .iaload, 59), (59, .if_icmp .ge 39, 62), (62, .aload_n 0, 63), (63, .iload_n 1, 64), (64, .aload_n 0, 65), (65, .getfield 25, 68), (68, .bipush 60, 70), (70, .iload_n 2, 71)]), (83, [(71, .imul, 72), (72, .iload 5, 74), (74, .iadd, 75), (75, .laload, 76), (76, .aload_n 0, 77), (77, .getfield 25, 80), (80, .bipush 60, 82), (82, .iload_n 3, 83)]), (96, [(83, .imul, 84), (84, .iload 6, 86), (86, .iadd, 87), (87, .laload, 88), (88, .lor, 89), (89, .invokevirtual 110, 92), (92, .iinc 6 1, 95), (95, .goto (-44), 98)]), (115, [(98, .iinc 5 1, 101), (101, .goto (-69), 104), (104, .aload_n 0, 105), (105, .getfield 29, 108), (108, .iload_n 1, 109), (109, .iload 4, 111), (111, .ifCond .eq 12, 114), (114, .aload_n 0, 115)]), (127, [(115, .getfield 29, 118), (118, .iload_n 1, 119), (119, .iaload, 120), (120, .goto 5, 123), (123, .bipush 61, 125), (125, .iastore, 126), (126, .return_, 127)])]
def tb_96 : List (Nat × List xm_I) := [(12, [(0, .iconst 0, 1), (1, .istore 5, 3), (3, .iload 5, 5), (5, .aload_n 0, 6), (6, .getfield 29, 9), (9, .iload_n 2, 10), (10, .iaload, 11), (11, .if_icmp .ge 39, 14)]), (27, [(14, .aload_n 0, 15), (15, .getfield 29, 18), (18, .iload_n 2, 19), (19, .iaload, 20), (20, .bipush 60, 22), (22, .if_icmp .gt 28, 25), (25, .aload_n 0, 26), (26, .iload_n 1, 27)]), (39, [(27, .aload_n 0, 28), (28, .getfield 25, 31), (31, .bipush 60, 33), (33, .iload_n 2, 34), (34, .imul, 35), (35, .iload 5, 37), (37, .iadd, 38), (38, .laload, 39)]), (55, [(39, .lload_n 3, 40), (40, .lor, 41), (41, .invokevirtual 110, 44), (44, .iinc 5 1, 47), (47, .goto (-44), 50), (50, .aload_n 0, 51), (51, .getfield 29, 54), (54, .iload_n 1, 55)]), (69, [(55, .aload_n 0, 56), (56, .getfield 29, 59), (59, .iload_n 2, 60), (60, .iaload, 61), (61, .bipush 60, 63), (63, .if_icmp .le 8, 66), (66, .bipush 61, 68), (68, .goto 9, 71)]), (79, [(71, .aload_n 0, 72), (72, .getfield 29, 75), (75, .iload_n 1, 76), (76, .iaload, 77), (77, .iastore, 78), (78, .return_, 79)])]
def tb_97 : List (Nat × List xm_I) := [(12, [(0, .aload_n 0, 1), (1, .iload_n 1, 2), (2, .invokevirtual 82, 5), (5, .ifCond .ne 5, 8), (8, .iconst (-1), 9), (9, .ireturn, 10), (10, .aload_n 0, 11), (11, .iload_n 1, 12)]), (28, [(12, .invokevirtual 157, 15), (15, .ifCond .eq 10, 18), (18, .aload_n 0, 19), (19, .getfield 138, 22), (22, .goto 5, 25), (25, .bipush (-2), 27), (27, .ireturn, 28)])]
def tb_98 : List (Nat × List xm_I) := [(11, [(0, .iconst 0, 1), (1, .istore_n 2, 2), (2, .iload_n 2, 3), (3, .bipush 16, 5), (5, .if_icmp .ge 28, 8), (8, .aload_n 0, 9), (9, .iload_n 1, 10), (10, .iload_n 2, 11)]), (26, [(11, .invokevirtual 126, 14), (14, .aload_n 0, 15), (15, .getfield 29, 18), (18, .iload_n 1, 19), (19, .iaload, 20), (20, .bipush 60, 22), (22, .if_icmp .le 5, 25), (25, .iconst 0, 26)]), (40, [(26, .ireturn, 27), (27, .iinc 2 1, 30), (30, .goto (-28), 33), (33, .aload_n 0, 34), (34, .iload_n 1, 35), (35, .invokevirtual 147, 38), (38, .aload_n 0, 39), (39, .iconst 0, 40)]), (52, [(40, .putfield 138, 43), (43, .aload_n 0, 44), (44, .iconst 1, 45), (45, .iload_n 1, 46), (46, .ishl, 47), (47, .iconst 0, 48), (48, .invokevirtual 143, 51), (51, .istore_n 2, 52)]), (64, [(52, .iload_n 2, 53), (53, .istore_n 3, 54), (54, .iload_n 3, 55), (55, .aload_n 0, 56), (56, .getfield 138, 59), (59, .if_icmp .ge 70, 62), (62, .iconst 0, 63), (63, .istore 4, 65)]), (79, [(65, .iload 4, 67), (67, .bipush 16, 69), (69, .if_icmp .ge 54, 72), (72, .aload_n 0, 73), (73, .aload_n 0, 74), (74, .getfield 78, 77), (77, .iconst 1, 78), (78, .isub, 79)]), (92, [(79, .iload 4, 81), (81, .invokevirtual 126, 84), (84, .aload_n 0, 85), (85, .aload_n 0, 86), (86, .getfield 38, 89), (89, .iload_n 3, 90), (90, .iaload, 91), (91, .invokevirtual 151, 94)]), (107, [(94, .ifCond .ne 5, 97), (97, .iconst 0, 98), (98, .ireturn, 99), (99, .aload_n 0, 100), (100, .iload_n 3, 101), (101, .iload 4, 103), (103, .invokevirtual 154, 106), (106, .aload_n 0, 107)]), (124, [(107, .getfield 138, 110), (110, .bipush 16, 112), (112, .if_icmp .le 5, 115), (115, .iconst 0, 116), (116, .ireturn, 117), (117, .iinc 4 1, 120), (120, .goto (-55), 123), (123, .iinc 3 1, 126)]), (131, [(126, .goto (-72), 129), (129, .iconst 1, 130), (130, .ireturn, 131)])]
def tb_99 : List (Nat × List xm_I) := [(8, [(0, .iconst 1, 1), (1, .iload_n 1, 2), (2, .ishl, 3), (3, .istore_n 2, 4), (4, .iload_n 1, 5), (5, .istore_n 3, 6), (6, .iload_n 3, 7), (7, .ifCond .lt 71, 10)]), (20, [(10, .iload_n 2, 11), (11, .iload_n 3, 12), (12, .ishr, 13), (13, .iconst 1, 14), (14, .iand, 15), (15, .iconst 1, 16), (16, .if_icmp .ne 24, 19), (19, .aload_n 0, 20)]), (32, [(20, .getfield 7, 23), (23, .iload_n 3, 24), (24, .iaload, 25), (25, .iconst 3, 26), (26, .if_icmp .le 14, 29), (29, .iload_n 2, 30), (30, .iconst 1, 31), (31, .aload_n 0, 32)]), (42, [(32, .getfield 13, 35), (35, .iload_n 3, 36), (36, .iaload, 37), (37, .ishl, 38), (38, .ior, 39), (39, .istore_n 2, 40), (40, .iload_n 2, 41), (41, .iload_n 3, 42)]), (54, [(42, .ishr, 43), (43, .iconst 1, 44), (44, .iand, 45), (45, .iconst 1, 46), (46, .if_icmp .ne 26, 49), (49, .aload_n 0, 50), (50, .getfield 7, 53), (53, .iload_n 3, 54)]), (68, [(54, .iaload, 55), (55, .invokestatic 86, 58), (58, .ifCond .eq 14, 61), (61, .iload_n 2, 62), (62, .iconst 1, 63), (63, .aload_n 0, 64), (64, .getfield 16, 67), (67, .iload_n 3, 68)]), (80, [(68, .iaload, 69), (69, .ishl, 70), (70, .ior, 71), (71, .istore_n 2, 72), (72, .iinc 3 (-1), 75), (75, .goto (-69), 78), (78, .aload_n 0, 79), (79, .iconst 0, 80)]), (92, [(80, .putfield 135, 83), (83, .iconst 0, 84), (84, .istore_n 3, 85), (85, .iload_n 3, 86), (86, .iload_n 1, 87), (87, .if_icmp .gt 49, 90), (90, .iload_n 2, 91), (91, .iload_n 3, 92)]), (104, [(92, .ishr, 93), (93, .iconst 1, 94), (94, .iand, 95), (95, .iconst 1, 96), (96, .if_icmp .ne 34, 99), (99, .aload_n 0, 100), (100, .getfield 7, 103), (103, .iload_n 3, 104)]), (119, [(104, .iaload, 105), (105, .bipush 7, 107), (107, .if_icmp .ne 23, 110), (110, .aload_n 0, 111), (111, .getfield 50, 114), (114, .aload_n 0, 115), (115, .getfield 135, 118), (118, .iload_n 3, 119)]), (131, [(119, .iastore, 120), (120, .aload_n 0, 121), (121, .dup, 122), (122, .getfield 135, 125), (125, .iconst 1, 126), (126, .iadd, 127), (127, .putfield 135, 130), (130, .iinc 3 1, 133)]), (137, [(133, .goto (-48), 136), (136, .return_, 137)])]
def tb_100 : List (Nat × List xm_I) := [(12, [(0, .iconst 0, 1), (1, .istore_n 3, 2), (2, .iload_n 3, 3), (3, .aload_n 0, 4), (4, .getfield 138, 7), (7, .if_icmp .ge 31, 10), (10, .aload_n 0, 11), (11, .getfield 38, 14)]), (26, [(14, .iload_n 3, 15), (15, .iaload, 16), (16, .iload_n 1, 17), (17, .if_icmp .ne 15, 20), (20, .aload_n 0, 21), (21, .getfield 41, 24), (24, .iload_n 3, 25), (25, .iaload, 26)]), (40, [(26, .iload_n 2, 27), (27, .if_icmp .ne 5, 30), (30, .iload_n 3, 31), (31, .ireturn, 32), (32, .iinc 3 1, 35), (35, .goto (-33), 38), (38, .aload_n 0, 39), (39, .getfield 38, 42)]), (54, [(42, .aload_n 0, 43), (43, .getfield 138, 46), (46, .iload_n 1, 47), (47, .iastore, 48), (48, .aload_n 0, 49), (49, .getfield 41, 52), (52, .aload_n 0, 53), (53, .getfield 138, 56)]), (66, [(56, .iload_n 2, 57), (57, .iastore, 58), (58, .aload_n 0, 59), (59, .dup, 60), (60, .getfield 138, 63), (63, .iconst 1, 64), (64, .iadd, 65), (65, .putfield 138, 68)]), (75, [(68, .aload_n 0, 69), (69, .getfield 138, 72), (72, .iconst 1, 73), (73, .isub, 74), (74, .ireturn, 75)])]
def tb_101 : List (Nat × List xm_I) := [(12, [(0, .aload_n 0, 1), (1, .iconst 1, 2), (2, .putfield 129, 5), (5, .aload_n 0, 6), (6, .getfield 32, 9), (9, .iconst 0, 10), (10, .lconst 0, 11), (11, .lastore, 12)]), (24, [(12, .iconst 0, 13), (13, .istore_n 2, 14), (14, .iload_n 2, 15), (15, .aload_n 0, 16), (16, .getfield 78, 19), (19, .if_icmp .ge 156, 22), (22, .iload_n 1, 23), (23, .iload_n 2, 24)]), (36, [(24, .ishr, 25), (25, .iconst 1, 26), (26, .iand, 27), (27, .iconst 1, 28), (28, .if_icmp .ne 141, 31), (31, .aload_n 0, 32), (32, .getfield 29, 35), (35, .iload_n 2, 36)]), (49, [(36, .iaload, 37), (37, .bipush 60, 39), (39, .if_icmp .le 5, 42), (42, .iconst 0, 43), (43, .ireturn, 44), (44, .aload_n 0, 45), (45, .getfield 129, 48), (48, .istore_n 3, 49)]), (61, [(49, .aload_n 0, 50), (50, .iconst 0, 51), (51, .putfield 129, 54), (54, .iconst 0, 55), (55, .istore 4, 57), (57, .iload 4, 59), (59, .iload_n 3, 60), (60, .if_icmp .ge 66, 63)]), (75, [(63, .iconst 0, 64), (64, .istore 5, 66), (66, .iload 5, 68), (68, .aload_n 0, 69), (69, .getfield 29, 72), (72, .iload_n 2, 73), (73, .iaload, 74), (74, .if_icmp .ge 46, 77)]), (92, [(77, .aload_n 0, 78), (78, .getfield 129, 81), (81, .bipush 60, 83), (83, .if_icmp .gt 37, 86), (86, .aload_n 0, 87), (87, .aload_n 0, 88), (88, .getfield 129, 91), (91, .aload_n 0, 92)]), (106, [(92, .getfield 32, 95), (95, .iload 4, 97), (97, .laload, 98), (98, .aload_n 0, 99), (99, .getfield 25, 102), (102, .bipush 60, 104), (104, .iload_n 2, 105), (105, .imul, 106)]), (121, [(106, .iload 5, 108), (108, .iadd, 109), (109, .laload, 110), (110, .lor, 111), (111, .invokevirtual 132, 114), (114, .iinc 5 1, 117), (117, .goto (-51), 120), (120, .iinc 4 1, 123)]), (138, [(123, .goto (-66), 126), (126, .aload_n 0, 127), (127, .getfield 129, 130), (130, .bipush 60, 132), (132, .if_icmp .le 5, 135), (135, .iconst 0, 136), (136, .ireturn, 137), (137, .iconst 0, 138)]), (154, [(138, .istore 4, 140), (140, .iload 4, 142), (142, .aload_n 0, 143), (143, .getfield 129, 146), (146, .if_icmp .ge 23, 149), (149, .aload_n 0, 150), (150, .getfield 32, 153), (153, .iload 4, 155)]), (170, [(155, .aload_n 0, 156), (156, .getfield 35, 159), (159, .iload 4, 161), (161, .laload, 162), (162, .lastore, 163), (163, .iinc 4 1, 166), (166, .goto (-26), 169), (169, .iinc 2 1, 172)]), (177, [(172, .goto (-158), 175), (175, .iconst 1, 176), (176, .ireturn, 177)])]
def tb_102 : List (Nat × List xm_I) := [(14, [(0, .iconst 0, 1), (1, .istore 4, 3), (3, .iload 4, 5), (5, .iload_n 1, 6), (6, .if_icmp .ge 21, 9), (9, .aload_n 0, 10), (10, .getfield 35, 13), (13, .iload 4, 15)]), (30, [(15, .laload, 16), (16, .lload_n 2, 17), (17, .lcmp, 18), (18, .ifCond .eq 9, 21), (21, .iinc 4 1, 24), (24, .goto (-21), 27), (27, .iload 4, 29), (29, .iload_n 1, 30)]), (45, [(30, .if_icmp .ge 4, 33), (33, .return_, 34), (34, .iload_n 1, 35), (35, .bipush 61, 37), (37, .if_icmp .ge 10, 40), (40, .aload_n 0, 41), (41, .getfield 35, 44), (44, .iload_n 1, 45)]), (55, [(45, .lload_n 2, 46), (46, .lastore, 47), (47, .aload_n 0, 48), (48, .iload_n 1, 49), (49, .iconst 1, 50), (50, .iadd, 51), (51, .putfield 129, 54), (54, .return_, 55)])]
def tb_103 : List (Nat × List xm_I) := [(9, [(0, .bipush 16, 2), (2, .iload_n 1, 3), (3, .imul, 4), (4, .iload_n 2, 5), (5, .iadd, 6), (6, .istore_n 3, 7), (7, .aload_n 0, 8), (8, .getfield 44, 11)]), (21, [(11, .iload_n 3, 12), (12, .iconst 0, 13), (13, .iastore, 14), (14, .aload_n 0, 15), (15, .getfield 47, 18), (18, .iload_n 3, 19), (19, .iconst 0, 20), (20, .iastore, 21)]), (35, [(21, .iconst 0, 22), (22, .istore 4, 24), (24, .iload 4, 26), (26, .aload_n 0, 27), (27, .getfield 129, 30), (30, .if_icmp .ge 163, 33), (33, .aload_n 0, 34), (34, .getfield 138, 37)]), (53, [(37, .bipush 16, 39), (39, .if_icmp .gt 154, 42), (42, .aload_n 0, 43), (43, .getfield 32, 46), (46, .iload 4, 48), (48, .laload, 49), (49, .ldc2_w 141, 52), (52, .land, 53)]), (66, [(53, .l2i, 54), (54, .istore 5, 56), (56, .aload_n 0, 57), (57, .getfield 32, 60), (60, .iload 4, 62), (62, .laload, 63), (63, .bipush 28, 65), (65, .lshr, 66)]), (79, [(66, .lstore 6, 68), (68, .aload_n 0, 69), (69, .getfield 41, 72), (72, .iload_n 1, 73), (73, .iaload, 74), (74, .istore 8, 76), (76, .iload 8, 78), (78, .aload_n 0, 79)]), (95, [(79, .getfield 135, 82), (82, .if_icmp .ge 26, 85), (85, .lload 6, 87), (87, .aload_n 0, 88), (88, .getfield 50, 91), (91, .iload 8, 93), (93, .iaload, 94), (94, .lshr, 95)]), (109, [(95, .lconst 1, 96), (96, .land, 97), (97, .lconst 0, 98), (98, .lcmp, 99), (99, .ifCond .ne 9, 102), (102, .iinc 8 1, 105), (105, .goto (-29), 108), (108, .iload 8, 110)]), (125, [(110, .aload_n 0, 111), (111, .getfield 135, 114), (114, .if_icmp .lt 7, 117), (117, .iconst 1, 118), (118, .goto 4, 121), (121, .iconst 0, 122), (122, .istore 9, 124), (124, .aload_n 0, 125)]), (142, [(125, .iload 5, 127), (127, .iload 9, 129), (129, .ifCond .eq 7, 132), (132, .iconst 0, 133), (133, .goto 5, 136), (136, .iload 8, 138), (138, .invokevirtual 143, 141), (141, .istore 10, 143)]), (154, [(143, .aload_n 0, 144), (144, .getfield 44, 147), (147, .iload_n 3, 148), (148, .dup2, 149), (149, .iaload, 150), (150, .iconst 1, 151), (151, .iload 10, 153), (153, .ishl, 154)]), (167, [(154, .ior, 155), (155, .iastore, 156), (156, .aload_n 0, 157), (157, .getfield 47, 160), (160, .iload_n 3, 161), (161, .iload 9, 163), (163, .ifCond .eq 17, 166), (166, .aload_n 0, 167)]), (178, [(167, .getfield 47, 170), (170, .iload_n 3, 171), (171, .iaload, 172), (172, .iconst 1, 173), (173, .iload 10, 175), (175, .ishl, 176), (176, .ior, 177), (177, .goto 9, 180)]), (194, [(180, .aload_n 0, 181), (181, .getfield 47, 184), (184, .iload_n 3, 185), (185, .iaload, 186), (186, .iastore, 187), (187, .iinc 4 1, 190), (190, .goto (-166), 193), (193, .return_, 194)])]
def tb_104 : List (Nat × List xm_I) := [(14, [(0, .aload_n 0, 1), (1, .iload_n 1, 2), (2, .invokevirtual 82, 5), (5, .ifCond .eq 12, 8), (8, .iload_n 2, 9), (9, .ifCond .lt 8, 12), (12, .iload_n 2, 13), (13, .iconst 3, 14)]), (26, [(14, .if_icmp .le 5, 17), (17, .iconst (-1), 18), (18, .ireturn, 19), (19, .aload_n 0, 20), (20, .iconst 0, 21), (21, .putfield 198, 24), (24, .aload_n 0, 25), (25, .iconst 0, 26)]), (40, [(26, .putfield 195, 29), (29, .aload_n 0, 30), (30, .iconst 0, 31), (31, .putfield 201, 34), (34, .aload_n 0, 35), (35, .iconst 0, 36), (36, .putfield 204, 39), (39, .aload_n 0, 40)]), (52, [(40, .iload_n 1, 41), (41, .invokevirtual 210, 44), (44, .istore_n 3, 45), (45, .iload_n 3, 46), (46, .ifCond .lt 19, 49), (49, .aload_n 0, 50), (50, .iload_n 3, 51), (51, .invokevirtual 157, 54)]), (69, [(54, .ifCond .eq 11, 57), (57, .aload_n 0, 58), (58, .iload_n 2, 59), (59, .invokevirtual 213, 62), (62, .ifCond .ne 6, 65), (65, .bipush (-2), 67), (67, .ireturn, 68), (68, .aload_n 0, 69)]), (83, [(69, .iconst 1, 70), (70, .invokevirtual 216, 73), (73, .aload_n 0, 74), (74, .getfield 59, 77), (77, .iconst 0, 78), (78, .baload, 79), (79, .ifCond .eq 10, 82), (82, .aload_n 0, 83)]), (95, [(83, .iconst 1, 84), (84, .invokevirtual 220, 87), (87, .iconst 1, 88), (88, .ireturn, 89), (89, .aload_n 0, 90), (90, .iload_n 1, 91), (91, .invokevirtual 157, 94), (94, .ifCond .eq 11, 97)]), (110, [(97, .aload_n 0, 98), (98, .iload_n 2, 99), (99, .invokevirtual 213, 102), (102, .ifCond .ne 6, 105), (105, .bipush (-2), 107), (107, .ireturn, 108), (108, .aload_n 0, 109), (109, .iconst 0, 110)]), (124, [(110, .invokevirtual 216, 113), (113, .aload_n 0, 114), (114, .getfield 59, 117), (117, .iconst 0, 118), (118, .baload, 119), (119, .ifCond .eq 8, 122), (122, .aload_n 0, 123), (123, .iconst 0, 124)]), (138, [(124, .invokevirtual 220, 127), (127, .aload_n 0, 128), (128, .getfield 59, 131), (131, .iconst 0, 132), (132, .baload, 133), (133, .ifCond .eq 7, 136), (136, .iconst 2, 137), (137, .goto 4, 140)]), (142, [(140, .iconst 0, 141), (141, .ireturn, 142)])]
def tb_105 : List (Nat × List xm_I) := [(12, [(0, .aload_n 0, 1), (1, .iconst 0, 2), (2, .putfield 168, 5), (5, .aload_n 0, 6), (6, .lconst 1, 7), (7, .invokevirtual 171, 10), (10, .istore_n 2, 11), (11, .iload_n 2, 12)]), (25, [(12, .istore_n 3, 13), (13, .iload_n 3, 14), (14, .aload_n 0, 15), (15, .getfield 168, 18), (18, .if_icmp .ge 80, 21), (21, .iconst 0, 22), (22, .istore 4, 24), (24, .iload 4, 26)]), (39, [(26, .bipush 16, 28), (28, .if_icmp .ge 64, 31), (31, .aload_n 0, 32), (32, .aload_n 0, 33), (33, .getfield 53, 36), (36, .iload_n 3, 37), (37, .laload, 38), (38, .iload 4, 40)]), (54, [(40, .iload_n 1, 41), (41, .invokevirtual 175, 44), (44, .lstore 5, 46), (46, .aload_n 0, 47), (47, .getfield 56, 50), (50, .bipush 16, 52), (52, .iload_n 3, 53), (53, .imul, 54)]), (66, [(54, .iload 4, 56), (56, .iadd, 57), (57, .lload 5, 59), (59, .lconst 0, 60), (60, .lcmp, 61), (61, .ifCond .ge 7, 64), (64, .iconst (-1), 65), (65, .goto 9, 68)]), (82, [(68, .aload_n 0, 69), (69, .lload 5, 71), (71, .invokevirtual 171, 74), (74, .iastore, 75), (75, .aload_n 0, 76), (76, .getfield 168, 79), (79, .bipush 100, 81), (81, .if_icmp .le 5, 84)]), (100, [(84, .iconst 0, 85), (85, .ireturn, 86), (86, .iinc 4 1, 89), (89, .goto (-65), 92), (92, .iinc 3 1, 95), (95, .goto (-82), 98), (98, .iconst 1, 99), (99, .ireturn, 100)])]
def tb_106 : List (Nat × List xm_I) := [(12, [(0, .iconst 0, 1), (1, .istore_n 3, 2), (2, .iload_n 3, 3), (3, .aload_n 0, 4), (4, .getfield 168, 7), (7, .if_icmp .ge 22, 10), (10, .aload_n 0, 11), (11, .getfield 53, 14)]), (24, [(14, .iload_n 3, 15), (15, .laload, 16), (16, .lload_n 1, 17), (17, .lcmp, 18), (18, .ifCond .ne 5, 21), (21, .iload_n 3, 22), (22, .ireturn, 23), (23, .iinc 3 1, 26)]), (40, [(26, .goto (-24), 29), (29, .aload_n 0, 30), (30, .getfield 53, 33), (33, .aload_n 0, 34), (34, .getfield 168, 37), (37, .lload_n 1, 38), (38, .lastore, 39), (39, .aload_n 0, 40)]), (54, [(40, .dup, 41), (41, .getfield 168, 44), (44, .iconst 1, 45), (45, .iadd, 46), (46, .putfield 168, 49), (49, .aload_n 0, 50), (50, .getfield 168, 53), (53, .iconst 1, 54)]), (56, [(54, .isub, 55), (55, .ireturn, 56)])]
def tb_107 : List (Nat × List xm_I) := [(13, [(0, .lconst 0, 1), (1, .lstore 5, 3), (3, .iconst 0, 4), (4, .istore 7, 6), (6, .iload 7, 8), (8, .aload_n 0, 9), (9, .getfield 138, 12), (12, .if_icmp .ge 143, 15)]), (28, [(15, .iconst (-1), 16), (16, .istore 8, 18), (18, .iconst 0, 19), (19, .istore 9, 21), (21, .iload 9, 23), (23, .aload_n 0, 24), (24, .getfield 138, 27), (27, .if_icmp .ge 96, 30)]), (44, [(30, .lload_n 1, 31), (31, .iload 9, 33), (33, .invokestatic 162, 36), (36, .istore 10, 38), (38, .bipush 16, 40), (40, .iload 9, 42), (42, .imul, 43), (43, .iload_n 3, 44)]), (59, [(44, .iadd, 45), (45, .istore 11, 47), (47, .iload 10, 49), (49, .ifCond .lt 23, 52), (52, .aload_n 0, 53), (53, .getfield 44, 56), (56, .iload 11, 58), (58, .iaload, 59)]), (70, [(59, .iload 7, 61), (61, .ishr, 62), (62, .iconst 1, 63), (63, .iand, 64), (64, .iconst 1, 65), (65, .if_icmp .ne 7, 68), (68, .iconst 1, 69), (69, .goto 4, 72)]), (87, [(72, .iconst 0, 73), (73, .istore 12, 75), (75, .iload 12, 77), (77, .ifCond .eq 21, 80), (80, .iload 10, 82), (82, .aload_n 0, 83), (83, .getfield 47, 86), (86, .iload 11, 88)]), (99, [(88, .iaload, 89), (89, .iload 7, 91), (91, .ishr, 92), (92, .iconst 1, 93), (93, .iand, 94), (94, .iadd, 95), (95, .goto 4, 98), (98, .iconst (-1), 99)]), (116, [(99, .istore 13, 101), (101, .iload 13, 103), (103, .iload 8, 105), (105, .if_icmp .le 8, 108), (108, .iload 13, 110), (110, .goto 5, 113), (113, .iload 8, 115), (115, .istore 8, 117)]), (135, [(117, .iinc 9 1, 120), (120, .goto (-99), 123), (123, .iload 8, 125), (125, .iload 4, 127), (127, .if_icmp .le 7, 130), (130, .ldc2_w 166, 133), (133, .lreturn, 134), (134, .lload 5, 136)]), (146, [(136, .iload 8, 138), (138, .iconst 1, 139), (139, .iadd, 140), (140, .i2l, 141), (141, .iconst 3, 142), (142, .iload 7, 144), (144, .imul, 145), (145, .lshl, 146)]), (158, [(146, .lor, 147), (147, .lstore 5, 149), (149, .iinc 7 1, 152), (152, .goto (-146), 155), (155, .lload 5, 157), (157, .lreturn, 158)])]
def tb_108 : List (Nat × List xm_I) := [(10, [(0, .lload_n 0, 1), (1, .iconst 3, 2), (2, .iload_n 2, 3), (3, .imul, 4), (4, .lshr, 5), (5, .ldc2_w 160, 8), (8, .land, 9), (9, .l2i, 10)]), (13, [(10, .iconst 1, 11), (11, .isub, 12), (12, .ireturn, 13)])]
def tb_109 : List (Nat × List xm_I) := [(12, [(0, .iconst 0, 1), (1, .istore_n 2, 2), (2, .iload_n 2, 3), (3, .aload_n 0, 4), (4, .getfield 168, 7), (7, .if_icmp .ge 16, 10), (10, .aload_n 0, 11), (11, .getfield 59, 14)]), (26, [(14, .iload_n 2, 15), (15, .iconst 1, 16), (16, .bastore, 17), (17, .iinc 2 1, 20), (20, .goto (-18), 23), (23, .iconst 1, 24), (24, .istore_n 2, 25), (25, .iload_n 2, 26)]), (36, [(26, .ifCond .eq 51, 29), (29, .iconst 0, 30), (30, .istore_n 2, 31), (31, .iconst 0, 32), (32, .istore_n 3, 33), (33, .iload_n 3, 34), (34, .aload_n 0, 35), (35, .getfield 168, 38)]), (52, [(38, .if_icmp .ge 36, 41), (41, .aload_n 0, 42), (42, .getfield 59, 45), (45, .iload_n 3, 46), (46, .baload, 47), (47, .ifCond .eq 21, 50), (50, .aload_n 0, 51), (51, .iload_n 3, 52)]), (66, [(52, .iload_n 1, 53), (53, .invokevirtual 188, 56), (56, .ifCond .ne 12, 59), (59, .aload_n 0, 60), (60, .getfield 59, 63), (63, .iload_n 3, 64), (64, .iconst 0, 65), (65, .bastore, 66)]), (80, [(66, .iconst 1, 67), (67, .istore_n 2, 68), (68, .iinc 3 1, 71), (71, .goto (-38), 74), (74, .goto (-49), 77), (77, .aload_n 0, 78), (78, .iconst 0, 79), (79, .putfield 192, 82)]), (94, [(82, .iconst 0, 83), (83, .istore_n 3, 84), (84, .iload_n 3, 85), (85, .aload_n 0, 86), (86, .getfield 168, 89), (89, .if_icmp .ge 32, 92), (92, .aload_n 0, 93), (93, .dup, 94)]), (108, [(94, .getfield 192, 97), (97, .aload_n 0, 98), (98, .getfield 59, 101), (101, .iload_n 3, 102), (102, .baload, 103), (103, .ifCond .eq 7, 106), (106, .iconst 1, 107), (107, .goto 4, 110)]), (122, [(110, .iconst 0, 111), (111, .iadd, 112), (112, .putfield 192, 115), (115, .iinc 3 1, 118), (118, .goto (-34), 121), (121, .return_, 122)])]
def tb_110 : List (Nat × List xm_I) := [(14, [(0, .iload_n 2, 1), (1, .ifCond .ne 17, 4), (4, .aload_n 0, 5), (5, .iload_n 1, 6), (6, .invokevirtual 182, 9), (9, .ifCond .lt 7, 12), (12, .iconst 1, 13), (13, .goto 4, 16)]), (26, [(16, .iconst 0, 17), (17, .ireturn, 18), (18, .iconst 1, 19), (19, .istore_n 3, 20), (20, .iconst 0, 21), (21, .istore 4, 23), (23, .iload 4, 25), (25, .iconst 4, 26)]), (41, [(26, .if_icmp .ge 29, 29), (29, .iload_n 3, 30), (30, .ifCond .eq 17, 33), (33, .aload_n 0, 34), (34, .iload_n 1, 35), (35, .iload 4, 37), (37, .invokevirtual 185, 40), (40, .ifCond .lt 7, 43)]), (57, [(43, .iconst 1, 44), (44, .goto 4, 47), (47, .iconst 0, 48), (48, .istore_n 3, 49), (49, .iinc 4 1, 52), (52, .goto (-29), 55), (55, .iload_n 3, 56), (56, .ireturn, 57)])]
def tb_111 : List (Nat × List xm_I) := [(10, [(0, .iconst (-1), 1), (1, .istore_n 2, 2), (2, .iconst 3, 3), (3, .istore_n 3, 4), (4, .iload_n 3, 5), (5, .ifCond .lt 73, 8), (8, .iconst 1, 9), (9, .istore 4, 11)]), (26, [(11, .iconst 0, 12), (12, .istore 5, 14), (14, .iload 5, 16), (16, .iconst 4, 17), (17, .if_icmp .ge 44, 20), (20, .iload 4, 22), (22, .ifCond .eq 30, 25), (25, .aload_n 0, 26)]), (37, [(26, .aload_n 0, 27), (27, .getfield 56, 30), (30, .bipush 16, 32), (32, .iload_n 1, 33), (33, .imul, 34), (34, .iload_n 3, 35), (35, .iadd, 36), (36, .iconst 4, 37)]), (50, [(37, .iload 5, 39), (39, .imul, 40), (40, .iadd, 41), (41, .iaload, 42), (42, .invokevirtual 179, 45), (45, .ifCond .eq 7, 48), (48, .iconst 1, 49), (49, .goto 4, 52)]), (68, [(52, .iconst 0, 53), (53, .istore 4, 55), (55, .iinc 5 1, 58), (58, .goto (-44), 61), (61, .iload 4, 63), (63, .ifCond .eq 7, 66), (66, .iload_n 3, 67), (67, .goto 4, 70)]), (80, [(70, .iload_n 2, 71), (71, .istore_n 2, 72), (72, .iinc 3 (-1), 75), (75, .goto (-71), 78), (78, .iload_n 2, 79), (79, .ireturn, 80)])]
def tb_112 : List (Nat × List xm_I) := [(14, [(0, .iload_n 1, 1), (1, .ifCond .lt 16, 4), (4, .aload_n 0, 5), (5, .getfield 59, 8), (8, .iload_n 1, 9), (9, .baload, 10), (10, .ifCond .eq 7, 13), (13, .iconst 1, 14)]), (19, [(14, .goto 4, 17), (17, .iconst 0, 18), (18, .ireturn, 19)])]
def tb_113 : List (Nat × List xm_I) := [(12, [(0, .iconst (-1), 1), (1, .istore_n 3, 2), (2, .iconst 3, 3), (3, .istore 4, 5), (5, .iload 4, 7), (7, .ifCond .lt 39, 10), (10, .aload_n 0, 11), (11, .aload_n 0, 12)]), (23, [(12, .getfield 56, 15), (15, .bipush 16, 17), (17, .iload_n 1, 18), (18, .imul, 19), (19, .iload_n 2, 20), (20, .iadd, 21), (21, .iconst 4, 22), (22, .iload 4, 24)]), (39, [(24, .imul, 25), (25, .iadd, 26), (26, .iaload, 27), (27, .invokevirtual 179, 30), (30, .ifCond .eq 8, 33), (33, .iload 4, 35), (35, .goto 4, 38), (38, .iload_n 3, 39)]), (48, [(39, .istore_n 3, 40), (40, .iinc 4 (-1), 43), (43, .goto (-38), 46), (46, .iload_n 3, 47), (47, .ireturn, 48)])]
def tb_114 : List (Nat × List xm_I) := [(14, [(0, .aload_n 0, 1), (1, .iload_n 1, 2), (2, .ifCond .eq 7, 5), (5, .iconst 1, 6), (6, .goto 4, 9), (9, .iconst 2, 10), (10, .putfield 198, 13), (13, .aload_n 0, 14)]), (28, [(14, .iconst 0, 15), (15, .putfield 195, 18), (18, .aload_n 0, 19), (19, .aload_n 0, 20), (20, .getfield 168, 23), (23, .putfield 201, 26), (26, .aload_n 0, 27), (27, .aload_n 0, 28)]), (43, [(28, .getfield 192, 31), (31, .putfield 204, 34), (34, .iconst 0, 35), (35, .istore_n 2, 36), (36, .iload_n 2, 37), (37, .bipush 100, 39), (39, .if_icmp .ge 16, 42), (42, .aload_n 0, 43)]), (57, [(43, .getfield 63, 46), (46, .iload_n 2, 47), (47, .iconst (-1), 48), (48, .iastore, 49), (49, .iinc 2 1, 52), (52, .goto (-16), 55), (55, .aload_n 0, 56), (56, .iconst 0, 57)]), (69, [(57, .invokevirtual 207, 60), (60, .istore_n 2, 61), (61, .iload_n 2, 62), (62, .istore_n 3, 63), (63, .iload_n 3, 64), (64, .aload_n 0, 65), (65, .getfield 195, 68), (68, .if_icmp .ge 115, 71)]), (83, [(71, .aload_n 0, 72), (72, .getfield 66, 75), (75, .iload_n 3, 76), (76, .iaload, 77), (77, .istore 4, 79), (79, .iconst 0, 80), (80, .istore 5, 82), (82, .iload 5, 84)]), (98, [(84, .iconst 4, 85), (85, .if_icmp .ge 92, 88), (88, .iload_n 1, 89), (89, .ifCond .eq 14, 92), (92, .aload_n 0, 93), (93, .iload 4, 95), (95, .iload 5, 97), (97, .invokevirtual 185, 100)]), (116, [(100, .goto 9, 103), (103, .aload_n 0, 104), (104, .iload 4, 106), (106, .invokevirtual 182, 109), (109, .istore 6, 111), (111, .aload_n 0, 112), (112, .getfield 69, 115), (115, .iconst 4, 116)]), (126, [(116, .iload_n 3, 117), (117, .imul, 118), (118, .iload 5, 120), (120, .iadd, 121), (121, .iload 6, 123), (123, .iastore, 124), (124, .aload_n 0, 125), (125, .getfield 72, 128)]), (137, [(128, .iconst 4, 129), (129, .iload_n 3, 130), (130, .imul, 131), (131, .iload 5, 133), (133, .iadd, 134), (134, .aload_n 0, 135), (135, .aload_n 0, 136), (136, .getfield 56, 139)]), (152, [(139, .bipush 16, 141), (141, .iload 4, 143), (143, .imul, 144), (144, .iload_n 1, 145), (145, .ifCond .eq 13, 148), (148, .iload 5, 150), (150, .iconst 4, 151), (151, .iload 6, 153)]), (165, [(153, .imul, 154), (154, .iadd, 155), (155, .goto 10, 158), (158, .iload 6, 160), (160, .iconst 4, 161), (161, .iload 5, 163), (163, .imul, 164), (164, .iadd, 165)]), (181, [(165, .iadd, 166), (166, .iaload, 167), (167, .invokevirtual 207, 170), (170, .iastore, 171), (171, .iinc 5 1, 174), (174, .goto (-92), 177), (177, .iinc 3 1, 180), (180, .goto (-117), 183)]), (184, [(183, .return_, 184)])]
def tb_115 : List (Nat × List xm_I) := [(14, [(0, .aload_n 0, 1), (1, .getfield 63, 4), (4, .iload_n 1, 5), (5, .iaload, 6), (6, .ifCond .ge 33, 9), (9, .aload_n 0, 10), (10, .getfield 63, 13), (13, .iload_n 1, 14)]), (28, [(14, .aload_n 0, 15), (15, .getfield 195, 18), (18, .iastore, 19), (19, .aload_n 0, 20), (20, .getfield 66, 23), (23, .aload_n 0, 24), (24, .getfield 195, 27), (27, .iload_n 1, 28)]), (40, [(28, .iastore, 29), (29, .aload_n 0, 30), (30, .dup, 31), (31, .getfield 195, 34), (34, .iconst 1, 35), (35, .iadd, 36), (36, .putfield 195, 39), (39, .aload_n 0, 40)]), (46, [(40, .getfield 63, 43), (43, .iload_n 1, 44), (44, .iaload, 45), (45, .ireturn, 46)])]
def tb_116 : List (Nat × List xm_I) := [(14, [(0, .iload_n 1, 1), (1, .ifCond .ne 10, 4), (4, .aload_n 0, 5), (5, .getfield 195, 8), (8, .goto 28, 11), (11, .iload_n 1, 12), (12, .iconst 1, 13), (13, .if_icmp .ne 10, 16)]), (30, [(16, .aload_n 0, 17), (17, .getfield 201, 20), (20, .goto 16, 23), (23, .iload_n 1, 24), (24, .iconst 2, 25), (25, .if_icmp .ne 10, 28), (28, .aload_n 0, 29), (29, .getfield 204, 32)]), (37, [(32, .goto 4, 35), (35, .iconst (-1), 36), (36, .ireturn, 37)])]
def tb_117 : List (Nat × List xm_I) := [(14, [(0, .aload_n 0, 1), (1, .getfield 198, 4), (4, .iconst 2, 5), (5, .if_icmp .ne 7, 8), (8, .iconst 0, 9), (9, .goto 4, 12), (12, .iload_n 2, 13), (13, .istore_n 3, 14)]), (28, [(14, .aload_n 0, 15), (15, .iload_n 1, 16), (16, .iload_n 3, 17), (17, .invokevirtual 223, 20), (20, .ifCond .eq 16, 23), (23, .aload_n 0, 24), (24, .getfield 69, 27), (27, .iconst 4, 28)]), (38, [(28, .iload_n 1, 29), (29, .imul, 30), (30, .iload_n 3, 31), (31, .iadd, 32), (32, .iaload, 33), (33, .goto 4, 36), (36, .iconst (-1), 37), (37, .ireturn, 38)])]
def tb_118 : List (Nat × List xm_I) := [(14, [(0, .aload_n 0, 1), (1, .getfield 198, 4), (4, .ifCond .le 28, 7), (7, .iload_n 1, 8), (8, .ifCond .lt 24, 11), (11, .iload_n 1, 12), (12, .aload_n 0, 13), (13, .getfield 195, 16)]), (30, [(16, .if_icmp .ge 16, 19), (19, .iload_n 2, 20), (20, .ifCond .lt 12, 23), (23, .iload_n 2, 24), (24, .iconst 4, 25), (25, .if_icmp .ge 7, 28), (28, .iconst 1, 29), (29, .goto 4, 32)]), (34, [(32, .iconst 0, 33), (33, .ireturn, 34)])]
def tb_119 : List (Nat × List xm_I) := [(14, [(0, .aload_n 0, 1), (1, .iload_n 1, 2), (2, .iload_n 2, 3), (3, .invokevirtual 223, 6), (6, .ifCond .eq 16, 9), (9, .aload_n 0, 10), (10, .getfield 72, 13), (13, .iconst 4, 14)]), (24, [(14, .iload_n 1, 15), (15, .imul, 16), (16, .iload_n 2, 17), (17, .iadd, 18), (18, .iaload, 19), (19, .goto 4, 22), (22, .iconst (-1), 23), (23, .ireturn, 24)])]
def kc_0 : List (Nat × xm_V) := []
def kf_0 : List (Nat × Nat × Nat × Nat) := [(10, 0, 0, 12), (21, 0, 1, 12), (28, 0, 2, 12), (37, 0, 3, 12), (46, 0, 4, 12), (55, 0, 5, 12), (81, 1, 5, 0), (100, 5, 6, 0), (116, 7, 2, 0), (117, 7, 3, 0), (120, 7, 4, 0), (124, 7, 1, 0), (127, 7, 7, 22), (134, 7, 8, 22)]
def kn_0 : List (Nat × Nat × List xm_F) := [(7, 1, [some none, some none, some none, some none, some none, none]), (16, 2, [some none, some none, some none, none, none]), (25, 3, [some none, some none, some none, some none, none, some none, some none, some none]), (32, 5, [some none, some none, some none, none, some none, some none, none, some none, some none]), (41, 6, [some none, some none, none, some none, some none, none]), (50, 7, [some none, none, none, none, none, some none, some none, some none, some none])]
def ks_0 : List (Nat × Nat) := []
def kx_0 : List (Nat × Nat) := [(1, 2)]
def kl_0 : List (Nat × Nat × Nat × Nat × Nat) := [(9, 2, 1, 2, 0), (18, 4, 2, 2, 0), (27, 5, 2, 2, 0), (34, 7, 3, 2, 0), (43, 8, 2, 2, 0), (52, 9, 2, 2, 0), (59, 11, 4, 0, 1), (63, 14, 1, 1, 0), (67, 15, 1, 1, 0), (70, 16, 4, 0, 1), (74, 12, 2, 0, 1), (77, 19, 3, 0, 1), (85, 22, 5, 0, 2), (89, 23, 2, 0, 2), (92, 32, 3, 0, 3), (96, 44, 3, 0, 3), (98, 46, 2, 0, 5), (101, 55, 1, 0, 7), (104, 56, 2, 0, 6), (107, 62, 2, 0, 6), (110, 69, 1, 0, 7), (113, 73, 1, 0, 7), (123, 76, 2, 0, 7), (131, 77, 1, 1, 0)]
def kc_1 : List (Nat × xm_V) := []
def kf_1 : List (Nat × Nat × Nat × Nat) := [(9, 5, 2, 12), (15, 5, 4, 12), (18, 5, 5, 12), (21, 5, 7, 12), (24, 5, 8, 12), (27, 5, 0, 12), (31, 5, 1, 12), (45, 5, 6, 0), (52, 5, 3, 0), (60, 1, 0, 22), (67, 4, 2, 3), (73, 4, 1, 0), (74, 4, 0, 22)]
def kn_1 : List (Nat × Nat × List xm_F) := []
def ks_1 : List (Nat × Nat) := []
def kx_1 : List (Nat × Nat) := [(3, 2)]
def kl_1 : List (Nat × Nat × Nat × Nat × Nat) := [(35, 32, 3, 0, 3), (41, 47, 2, 0, 5), (49, 48, 3, 0, 5), (55, 24, 3, 0, 1), (63, 49, 3, 0, 3), (78, 50, 1, 1, 0), (82, 51, 3, 0, 5), (86, 52, 1, 1, 0), (89, 53, 3, 0, 5)]
def kc_2 : List (Nat × xm_V) := []
def kf_2 : List (Nat × Nat × Nat × Nat) := [(9, 1, 0, 12), (15, 1, 1, 12), (18, 1, 2, 12), (21, 1, 3, 12), (24, 1, 4, 12), (33, 1, 5, 0)]
def kn_2 : List (Nat × Nat × List xm_F) := []
def ks_2 : List (Nat × Nat) := [(51, 1)]
def kx_2 : List (Nat × Nat) := [(3, 2)]
def kl_2 : List (Nat × Nat × Nat × Nat × Nat) := [(27, 3, 2, 1, 0), (37, 13, 1, 1, 0), (41, 12, 2, 0, 1), (44, 17, 1, 1, 0), (47, 19, 3, 0, 1), (54, 16, 4, 0, 1)]
def kc_3 : List (Nat × xm_V) := [(38, xv_l (-1)), (44, xv_l (15))]
def kf_3 : List (Nat × Nat × Nat × Nat) := [(9, 6, 1, 12), (15, 6, 3, 12), (19, 6, 4, 12), (23, 6, 0, 12), (31, 6, 2, 0), (50, 5, 6, 0), (53, 5, 8, 22), (56, 5, 7, 22), (62, 6, 5, 0)]
def kn_3 : List (Nat × Nat × List xm_F) := []
def ks_3 : List (Nat × Nat) := []
def kx_3 : List (Nat × Nat) := [(3, 2)]
def kl_3 : List (Nat × Nat × Nat × Nat × Nat) := [(27, 57, 3, 1, 0), (35, 59, 4, 0, 6), (40, 61, 2, 0, 6), (46, 58, 2, 1, 0), (59, 60, 3, 1, 0), (65, 63, 2, 0, 6), (69, 64, 3, 0, 6), (73, 65, 2, 0, 6), (77, 68, 3, 0, 6), (81, 67, 4, 0, 6), (85, 66, 4, 0, 6)]
def kc_4 : List (Nat × xm_V) := [(23, xv_l (268435455))]
def kf_4 : List (Nat × Nat × Nat × Nat) := [(9, 4, 0, 12), (15, 4, 1, 0), (19, 4, 2, 3)]
def kn_4 : List (Nat × Nat × List xm_F) := []
def ks_4 : List (Nat × Nat) := []
def kx_4 : List (Nat × Nat) := [(3, 2)]
def kl_4 : List (Nat × Nat × Nat × Nat × Nat) := []
def kc_5 : List (Nat × xm_V) := []
def kf_5 : List (Nat × Nat × Nat × Nat) := [(9, 3, 1, 12), (15, 3, 2, 12), (18, 3, 3, 2), (25, 3, 5, 12), (29, 3, 6, 12), (32, 3, 7, 12), (35, 3, 0, 12), (63, 4, 2, 3), (67, 3, 4, 0), (71, 4, 1, 0), (78, 4, 0, 22), (87, 1, 0, 22), (90, 1, 1, 22), (93, 1, 2, 22)]
def kn_5 : List (Nat × Nat × List xm_F) := [(22, 4, [some none, none, none])]
def ks_5 : List (Nat × Nat) := []
def kx_5 : List (Nat × Nat) := [(3, 2), (81, 1)]
def kl_5 : List (Nat × Nat × Nat × Nat × Nat) := [(24, 6, 1, 2, 0), (39, 3, 2, 1, 0), (45, 33, 2, 1, 0), (49, 24, 3, 0, 1), (55, 34, 3, 0, 3), (59, 41, 2, 0, 3), (74, 42, 2, 1, 0), (96, 35, 1, 0, 4), (99, 36, 2, 0, 4), (103, 37, 4, 0, 3), (107, 38, 5, 0, 3), (111, 39, 1, 1, 0), (115, 40, 1, 1, 0)]
def kc_6 : List (Nat × xm_V) := []
def kf_6 : List (Nat × Nat × Nat × Nat) := [(9, 7, 1, 0), (15, 7, 5, 12), (19, 7, 6, 12), (22, 7, 7, 12), (25, 7, 8, 12), (28, 7, 0, 12), (32, 7, 2, 0), (35, 7, 3, 0), (38, 7, 4, 0), (59, 6, 2, 0), (60, 6, 5, 0)]
def kn_6 : List (Nat × Nat × List xm_F) := []
def ks_6 : List (Nat × Nat) := []
def kx_6 : List (Nat × Nat) := [(3, 2)]
def kl_6 : List (Nat × Nat × Nat × Nat × Nat) := [(41, 70, 2, 0, 7), (45, 68, 3, 0, 6), (51, 72, 5, 0, 7), (55, 65, 2, 0, 6), (63, 3, 2, 1, 0), (69, 71, 2, 0, 7), (72, 67, 4, 0, 6)]
def kc_7 : List (Nat × xm_V) := []
def kf_7 : List (Nat × Nat × Nat × Nat) := [(9, 2, 1, 12), (15, 2, 2, 12), (18, 2, 0, 12), (22, 2, 3, 0), (26, 2, 4, 0), (39, 1, 1, 22), (42, 1, 2, 22), (45, 1, 0, 22)]
def kn_7 : List (Nat × Nat × List xm_F) := []
def ks_7 : List (Nat × Nat) := []
def kx_7 : List (Nat × Nat) := [(3, 2)]
def kl_7 : List (Nat × Nat × Nat × Nat × Nat) := [(29, 24, 3, 0, 1), (35, 25, 2, 0, 2), (48, 26, 1, 0, 2), (52, 27, 2, 0, 2), (55, 28, 2, 0, 2), (58, 29, 3, 0, 2), (62, 30, 3, 0, 2)]
def kc_8 : List (Nat × xm_V) := [(28, xv_l (4294967295))]
def kf_8 : List (Nat × Nat × Nat × Nat) := []
def kn_8 : List (Nat × Nat × List xm_F) := [(7, 0, [some none, some none, some none, some none, some none, some none]), (10, 8, [none, some none, some none, some none, some none, some none, some none, some none, some none, none, some none, none, some none, some none, some none, some none, some none, none, none, some none, some none, some none, none, none, none, none, none, some none, some none, some none, some none, some none])]
def ks_8 : List (Nat × Nat) := []
def kx_8 : List (Nat × Nat) := []
def kl_8 : List (Nat × Nat × Nat × Nat × Nat) := [(9, 1, 1, 2, 0), (12, 79, 1, 2, 0), (13, 10, 4, 0, 0), (17, 80, 4, 0, 8), (18, 18, 2, 0, 0), (22, 84, 2, 0, 8), (23, 20, 1, 0, 0), (27, 86, 1, 0, 8), (30, 21, 6, 0, 0), (34, 87, 6, 0, 8), (35, 31, 3, 0, 0), (39, 91, 3, 0, 8), (40, 45, 2, 0, 0), (43, 97, 2, 0, 8), (44, 54, 3, 0, 0), (47, 104, 3, 0, 8), (48, 74, 2, 0, 0), (51, 116, 2, 0, 8), (52, 75, 3, 0, 0), (55, 117, 3, 0, 8), (56, 78, 3, 0, 0), (59, 119, 3, 0, 8)]
def kc_9 : List (Nat × xm_V) := [(97, xv_l (15)), (141, xv_l (268435455)), (160, xv_l (7)), (166, xv_l (-1))]
def kf_9 : List (Nat × Nat × Nat × Nat) := [(7, 8, 1, 2), (13, 8, 2, 2), (16, 8, 3, 2), (19, 8, 4, 2), (22, 8, 5, 2), (25, 8, 6, 2), (29, 8, 7, 2), (32, 8, 8, 2), (35, 8, 10, 2), (38, 8, 12, 2), (41, 8, 13, 2), (44, 8, 14, 2), (47, 8, 15, 2), (50, 8, 16, 2), (53, 8, 19, 2), (56, 8, 20, 2), (59, 8, 21, 2), (63, 8, 27, 2), (66, 8, 28, 2), (69, 8, 29, 2), (72, 8, 30, 2), (75, 8, 31, 2), (78, 8, 0, 0), (129, 8, 9, 0), (135, 8, 17, 0), (138, 8, 11, 0), (168, 8, 18, 0), (192, 8, 22, 0), (195, 8, 24, 0), (198, 8, 23, 0), (201, 8, 25, 0), (204, 8, 26, 0)]
def kn_9 : List (Nat × Nat × List xm_F) := []
def ks_9 : List (Nat × Nat) := []
def kx_9 : List (Nat × Nat) := [(1, 2)]
def kl_9 : List (Nat × Nat × Nat × Nat × Nat) := [(82, 81, 2, 0, 8), (86, 82, 1, 1, 0), (89, 83, 4, 0, 8), (93, 85, 1, 1, 0), (99, 89, 3, 1, 0), (102, 88, 5, 0, 8), (106, 90, 6, 0, 8), (110, 94, 3, 0, 8), (114, 95, 4, 0, 8), (118, 96, 4, 0, 8), (122, 93, 3, 0, 8), (126, 92, 3, 0, 8), (132, 102, 3, 0, 8), (143, 100, 3, 0, 8), (147, 99, 2, 0, 8), (151, 101, 2, 0, 8), (154, 103, 3, 0, 8), (157, 98, 2, 0, 8), (162, 108, 2, 1, 0), (171, 106, 2, 0, 8), (175, 107, 4, 0, 8), (179, 112, 2, 0, 8), (182, 111, 2, 0, 8), (185, 113, 3, 0, 8), (188, 110, 3, 0, 8), (207, 115, 2, 0, 8), (210, 84, 2, 0, 8), (213, 105, 2, 0, 8), (216, 109, 2, 0, 8), (220, 114, 2, 0, 8), (223, 118, 3, 0, 8)]
def kc_10 : List (Nat × xm_V) := []
def kf_10 : List (Nat × Nat × Nat × Nat) := []
def kn_10 : List (Nat × Nat × List xm_F) := []
def ks_10 : List (Nat × Nat) := []
def kx_10 : List (Nat × Nat) := []
def kl_10 : List (Nat × Nat × Nat × Nat × Nat) := []
def kc_11 : List (Nat × xm_V) := []
def kf_11 : List (Nat × Nat × Nat × Nat) := []
def kn_11 : List (Nat × Nat × List xm_F) := []
def ks_11 : List (Nat × Nat) := []
-- NOT IN THE PROGRAM: java/util/Arrays 319 ('[J', 'clone', '()Ljava/lang/Object;')
def kx_11 : List (Nat × Nat) := [(150, 1), (304, 3)]
def kl_11 : List (Nat × Nat × Nat × Nat × Nat) := []
def ym_0 : xm_Y := (fun pc => xm_tb pc tb_0, fun ix => xm_as ix kc_8, fun ix => xm_as ix kf_8, fun ix => xm_as ix kn_8, fun ix => xm_as ix ks_8, fun ix => (xm_as ix kx_8).getD 0)
def ym_1 : xm_Y := (fun pc => xm_tb pc tb_1, fun ix => xm_as ix kc_0, fun ix => xm_as ix kf_0, fun ix => xm_as ix kn_0, fun ix => xm_as ix ks_0, fun ix => bif Nat.beq ix 0 then 9 else (xm_as ix kx_0).getD 0)
def ym_2 : xm_Y := (fun pc => xm_tb pc tb_2, fun ix => xm_as ix kc_2, fun ix => xm_as ix kf_2, fun ix => xm_as ix kn_2, fun ix => xm_as ix ks_2, fun ix => bif Nat.beq ix 0 then 9 else (xm_as ix kx_2).getD 0)
def ym_3 : xm_Y := (fun pc => xm_tb pc tb_3, fun ix => xm_as ix kc_11, fun ix => xm_as ix kf_11, fun ix => xm_as ix kn_11, fun ix => xm_as ix ks_11, fun ix => (xm_as ix kx_11).getD 0)
def ym_4 : xm_Y := (fun pc => xm_tb pc tb_4, fun ix => xm_as ix kc_7, fun ix => xm_as ix kf_7, fun ix => xm_as ix kn_7, fun ix => xm_as ix ks_7, fun ix => bif Nat.beq ix 0 then 9 else (xm_as ix kx_7).getD 0)
def ym_5 : xm_Y := (fun pc => xm_tb pc tb_5, fun ix => xm_as ix kc_5, fun ix => xm_as ix kf_5, fun ix => xm_as ix kn_5, fun ix => xm_as ix ks_5, fun ix => bif Nat.beq ix 0 then 9 else (xm_as ix kx_5).getD 0)
def ym_6 : xm_Y := (fun pc => xm_tb pc tb_6, fun ix => xm_as ix kc_4, fun ix => xm_as ix kf_4, fun ix => xm_as ix kn_4, fun ix => xm_as ix ks_4, fun ix => bif Nat.beq ix 0 then 9 else (xm_as ix kx_4).getD 0)
def ym_7 : xm_Y := (fun pc => xm_tb pc tb_7, fun ix => xm_as ix kc_1, fun ix => xm_as ix kf_1, fun ix => xm_as ix kn_1, fun ix => xm_as ix ks_1, fun ix => bif Nat.beq ix 0 then 9 else (xm_as ix kx_1).getD 0)
def ym_8 : xm_Y := (fun pc => xm_tb pc tb_8, fun ix => xm_as ix kc_3, fun ix => xm_as ix kf_3, fun ix => xm_as ix kn_3, fun ix => xm_as ix ks_3, fun ix => bif Nat.beq ix 0 then 9 else (xm_as ix kx_3).getD 0)
def ym_9 : xm_Y := (fun pc => xm_tb pc tb_9, fun ix => xm_as ix kc_6, fun ix => xm_as ix kf_6, fun ix => xm_as ix kn_6, fun ix => xm_as ix ks_6, fun ix => bif Nat.beq ix 0 then 9 else (xm_as ix kx_6).getD 0)
def ym_10 : xm_Y := (fun pc => xm_tb pc tb_10, fun ix => xm_as ix kc_0, fun ix => xm_as ix kf_0, fun ix => xm_as ix kn_0, fun ix => xm_as ix ks_0, fun ix => (xm_as ix kx_0).getD 0)
def ym_11 : xm_Y := (fun pc => xm_tb pc tb_11, fun ix => xm_as ix kc_2, fun ix => xm_as ix kf_2, fun ix => xm_as ix kn_2, fun ix => xm_as ix ks_2, fun ix => (xm_as ix kx_2).getD 0)
def ym_12 : xm_Y := (fun pc => xm_tb pc tb_12, fun ix => xm_as ix kc_2, fun ix => xm_as ix kf_2, fun ix => xm_as ix kn_2, fun ix => xm_as ix ks_2, fun ix => (xm_as ix kx_2).getD 0)
def ym_13 : xm_Y := (fun pc => xm_tb pc tb_13, fun ix => xm_as ix kc_2, fun ix => xm_as ix kf_2, fun ix => xm_as ix kn_2, fun ix => xm_as ix ks_2, fun ix => (xm_as ix kx_2).getD 0)
def ym_14 : xm_Y := (fun pc => xm_tb pc tb_14, fun ix => xm_as ix kc_2, fun ix => xm_as ix kf_2, fun ix => xm_as ix kn_2, fun ix => xm_as ix ks_2, fun ix => (xm_as ix kx_2).getD 0)
def ym_15 : xm_Y := (fun pc => xm_tb pc tb_15, fun ix => xm_as ix kc_2, fun ix => xm_as ix kf_2, fun ix => xm_as ix kn_2, fun ix => xm_as ix ks_2, fun ix => (xm_as ix kx_2).getD 0)
def ym_16 : xm_Y := (fun pc => xm_tb pc tb_16, fun ix => xm_as ix kc_2, fun ix => xm_as ix kf_2, fun ix => xm_as ix kn_2, fun ix => xm_as ix ks_2, fun ix => (xm_as ix kx_2).getD 0)
def ym_17 : xm_Y := (fun pc => xm_tb pc tb_17, fun ix => xm_as ix kc_2, fun ix => xm_as ix kf_2, fun ix => xm_as ix kn_2, fun ix => xm_as ix ks_2, fun ix => (xm_as ix kx_2).getD 0)
def ym_18 : xm_Y := (fun pc => xm_tb pc tb_18, fun ix => xm_as ix kc_0, fun ix => xm_as ix kf_0, fun ix => xm_as ix kn_0, fun ix => xm_as ix ks_0, fun ix => (xm_as ix kx_0).getD 0)
def ym_19 : xm_Y := (fun pc => xm_tb pc tb_19, fun ix => xm_as ix kc_2, fun ix => xm_as ix kf_2, fun ix => xm_as ix kn_2, fun ix => xm_as ix ks_2, fun ix => (xm_as ix kx_2).getD 0)
def ym_20 : xm_Y := (fun pc => xm_tb pc tb_20, fun ix => xm_as ix kc_0, fun ix => xm_as ix kf_0, fun ix => xm_as ix kn_0, fun ix => xm_as ix ks_0, fun ix => (xm_as ix kx_0).getD 0)
def ym_21 : xm_Y := (fun pc => xm_tb pc tb_21, fun ix => xm_as ix kc_0, fun ix => xm_as ix kf_0, fun ix => xm_as ix kn_0, fun ix => xm_as ix ks_0, fun ix => (xm_as ix kx_0).getD 0)
def ym_22 : xm_Y := (fun pc => xm_tb pc tb_22, fun ix => xm_as ix kc_7, fun ix => xm_as ix kf_7, fun ix => xm_as ix kn_7, fun ix => xm_as ix ks_7, fun ix => (xm_as ix kx_7).getD 0)
def ym_23 : xm_Y := (fun pc => xm_tb pc tb_23, fun ix => xm_as ix kc_7, fun ix => xm_as ix kf_7, fun ix => xm_as ix kn_7, fun ix => xm_as ix ks_7, fun ix => (xm_as ix kx_7).getD 0)
def ym_24 : xm_Y := (fun pc => xm_tb pc tb_24, fun ix => xm_as ix kc_2, fun ix => xm_as ix kf_2, fun ix => xm_as ix kn_2, fun ix => xm_as ix ks_2, fun ix => (xm_as ix kx_2).getD 0)
def ym_25 : xm_Y := (fun pc => xm_tb pc tb_25, fun ix => xm_as ix kc_7, fun ix => xm_as ix kf_7, fun ix => xm_as ix kn_7, fun ix => xm_as ix ks_7, fun ix => (xm_as ix kx_7).getD 0)
def ym_26 : xm_Y := (fun pc => xm_tb pc tb_26, fun ix => xm_as ix kc_7, fun ix => xm_as ix kf_7, fun ix => xm_as ix kn_7, fun ix => xm_as ix ks_7, fun ix => (xm_as ix kx_7).getD 0)
def ym_27 : xm_Y := (fun pc => xm_tb pc tb_27, fun ix => xm_as ix kc_7, fun ix => xm_as ix kf_7, fun ix => xm_as ix kn_7, fun ix => xm_as ix ks_7, fun ix => (xm_as ix kx_7).getD 0)
def ym_28 : xm_Y := (fun pc => xm_tb pc tb_28, fun ix => xm_as ix kc_7, fun ix => xm_as ix kf_7, fun ix => xm_as ix kn_7, fun ix => xm_as ix ks_7, fun ix => (xm_as ix kx_7).getD 0)
def ym_29 : xm_Y := (fun pc => xm_tb pc tb_29, fun ix => xm_as ix kc_7, fun ix => xm_as ix kf_7, fun ix => xm_as ix kn_7, fun ix => xm_as ix ks_7, fun ix => (xm_as ix kx_7).getD 0)
def ym_30 : xm_Y := (fun pc => xm_tb pc tb_30, fun ix => xm_as ix kc_7, fun ix => xm_as ix kf_7, fun ix => xm_as ix kn_7, fun ix => xm_as ix ks_7, fun ix => (xm_as ix kx_7).getD 0)
def ym_31 : xm_Y := (fun pc => xm_tb pc tb_31, fun ix => xm_as ix kc_0, fun ix => xm_as ix kf_0, fun ix => xm_as ix kn_0, fun ix => xm_as ix ks_0, fun ix => (xm_as ix kx_0).getD 0)
def ym_32 : xm_Y := (fun pc => xm_tb pc tb_32, fun ix => xm_as ix kc_5, fun ix => xm_as ix kf_5, fun ix => xm_as ix kn_5, fun ix => xm_as ix ks_5, fun ix => (xm_as ix kx_5).getD 0)
def ym_33 : xm_Y := (fun pc => xm_tb pc tb_33, fun ix => xm_as ix kc_5, fun ix => xm_as ix kf_5, fun ix => xm_as ix kn_5, fun ix => xm_as ix ks_5, fun ix => (xm_as ix kx_5).getD 0)
def ym_34 : xm_Y := (fun pc => xm_tb pc tb_34, fun ix => xm_as ix kc_5, fun ix => xm_as ix kf_5, fun ix => xm_as ix kn_5, fun ix => xm_as ix ks_5, fun ix => (xm_as ix kx_5).getD 0)
def ym_35 : xm_Y := (fun pc => xm_tb pc tb_35, fun ix => xm_as ix kc_4, fun ix => xm_as ix kf_4, fun ix => xm_as ix kn_4, fun ix => xm_as ix ks_4, fun ix => (xm_as ix kx_4).getD 0)
def ym_36 : xm_Y := (fun pc => xm_tb pc tb_36, fun ix => xm_as ix kc_4, fun ix => xm_as ix kf_4, fun ix => xm_as ix kn_4, fun ix => xm_as ix ks_4, fun ix => (xm_as ix kx_4).getD 0)
def ym_37 : xm_Y := (fun pc => xm_tb pc tb_37, fun ix => xm_as ix kc_5, fun ix => xm_as ix kf_5, fun ix => xm_as ix kn_5, fun ix => xm_as ix ks_5, fun ix => (xm_as ix kx_5).getD 0)
def ym_38 : xm_Y := (fun pc => xm_tb pc tb_38, fun ix => xm_as ix kc_5, fun ix => xm_as ix kf_5, fun ix => xm_as ix kn_5, fun ix => xm_as ix ks_5, fun ix => (xm_as ix kx_5).getD 0)
def ym_39 : xm_Y := (fun pc => xm_tb pc tb_39, fun ix => xm_as ix kc_4, fun ix => xm_as ix kf_4, fun ix => xm_as ix kn_4, fun ix => xm_as ix ks_4, fun ix => (xm_as ix kx_4).getD 0)
def ym_40 : xm_Y := (fun pc => xm_tb pc tb_40, fun ix => xm_as ix kc_4, fun ix => xm_as ix kf_4, fun ix => xm_as ix kn_4, fun ix => xm_as ix ks_4, fun ix => (xm_as ix kx_4).getD 0)
def ym_41 : xm_Y := (fun pc => xm_tb pc tb_41, fun ix => xm_as ix kc_5, fun ix => xm_as ix kf_5, fun ix => xm_as ix kn_5, fun ix => xm_as ix ks_5, fun ix => (xm_as ix kx_5).getD 0)
def ym_42 : xm_Y := (fun pc => xm_tb pc tb_42, fun ix => xm_as ix kc_11, fun ix => xm_as ix kf_11, fun ix => xm_as ix kn_11, fun ix => xm_as ix ks_11, fun ix => (xm_as ix kx_11).getD 0)
def ym_43 : xm_Y := (fun pc => xm_tb pc tb_43, fun ix => xm_as ix kc_10, fun ix => xm_as ix kf_10, fun ix => xm_as ix kn_10, fun ix => xm_as ix ks_10, fun ix => (xm_as ix kx_10).getD 0)
def ym_44 : xm_Y := (fun pc => xm_tb pc tb_44, fun ix => xm_as ix kc_5, fun ix => xm_as ix kf_5, fun ix => xm_as ix kn_5, fun ix => xm_as ix ks_5, fun ix => (xm_as ix kx_5).getD 0)
def ym_45 : xm_Y := (fun pc => xm_tb pc tb_45, fun ix => xm_as ix kc_0, fun ix => xm_as ix kf_0, fun ix => xm_as ix kn_0, fun ix => xm_as ix ks_0, fun ix => (xm_as ix kx_0).getD 0)
def ym_46 : xm_Y := (fun pc => xm_tb pc tb_46, fun ix => xm_as ix kc_1, fun ix => xm_as ix kf_1, fun ix => xm_as ix kn_1, fun ix => xm_as ix ks_1, fun ix => (xm_as ix kx_1).getD 0)
def ym_47 : xm_Y := (fun pc => xm_tb pc tb_47, fun ix => xm_as ix kc_1, fun ix => xm_as ix kf_1, fun ix => xm_as ix kn_1, fun ix => xm_as ix ks_1, fun ix => (xm_as ix kx_1).getD 0)
def ym_48 : xm_Y := (fun pc => xm_tb pc tb_48, fun ix => xm_as ix kc_1, fun ix => xm_as ix kf_1, fun ix => xm_as ix kn_1, fun ix => xm_as ix ks_1, fun ix => (xm_as ix kx_1).getD 0)
def ym_49 : xm_Y := (fun pc => xm_tb pc tb_49, fun ix => xm_as ix kc_5, fun ix => xm_as ix kf_5, fun ix => xm_as ix kn_5, fun ix => xm_as ix ks_5, fun ix => (xm_as ix kx_5).getD 0)
def ym_50 : xm_Y := (fun pc => xm_tb pc tb_50, fun ix => xm_as ix kc_4, fun ix => xm_as ix kf_4, fun ix => xm_as ix kn_4, fun ix => xm_as ix ks_4, fun ix => (xm_as ix kx_4).getD 0)
def ym_51 : xm_Y := (fun pc => xm_tb pc tb_51, fun ix => xm_as ix kc_1, fun ix => xm_as ix kf_1, fun ix => xm_as ix kn_1, fun ix => xm_as ix ks_1, fun ix => (xm_as ix kx_1).getD 0)
def ym_52 : xm_Y := (fun pc => xm_tb pc tb_52, fun ix => xm_as ix kc_4, fun ix => xm_as ix kf_4, fun ix => xm_as ix kn_4, fun ix => xm_as ix ks_4, fun ix => (xm_as ix kx_4).getD 0)
def ym_53 : xm_Y := (fun pc => xm_tb pc tb_53, fun ix => xm_as ix kc_1, fun ix => xm_as ix kf_1, fun ix => xm_as ix kn_1, fun ix => xm_as ix ks_1, fun ix => (xm_as ix kx_1).getD 0)
def ym_54 : xm_Y := (fun pc => xm_tb pc tb_54, fun ix => xm_as ix kc_0, fun ix => xm_as ix kf_0, fun ix => xm_as ix kn_0, fun ix => xm_as ix ks_0, fun ix => (xm_as ix kx_0).getD 0)
def ym_55 : xm_Y := (fun pc => xm_tb pc tb_55, fun ix => xm_as ix kc_6, fun ix => xm_as ix kf_6, fun ix => xm_as ix kn_6, fun ix => xm_as ix ks_6, fun ix => (xm_as ix kx_6).getD 0)
def ym_56 : xm_Y := (fun pc => xm_tb pc tb_56, fun ix => xm_as ix kc_3, fun ix => xm_as ix kf_3, fun ix => xm_as ix kn_3, fun ix => xm_as ix ks_3, fun ix => (xm_as ix kx_3).getD 0)
def ym_57 : xm_Y := (fun pc => xm_tb pc tb_57, fun ix => xm_as ix kc_3, fun ix => xm_as ix kf_3, fun ix => xm_as ix kn_3, fun ix => xm_as ix ks_3, fun ix => (xm_as ix kx_3).getD 0)
def ym_58 : xm_Y := (fun pc => xm_tb pc tb_58, fun ix => xm_as ix kc_3, fun ix => xm_as ix kf_3, fun ix => xm_as ix kn_3, fun ix => xm_as ix ks_3, fun ix => (xm_as ix kx_3).getD 0)
def ym_59 : xm_Y := (fun pc => xm_tb pc tb_59, fun ix => xm_as ix kc_3, fun ix => xm_as ix kf_3, fun ix => xm_as ix kn_3, fun ix => xm_as ix ks_3, fun ix => (xm_as ix kx_3).getD 0)
def ym_60 : xm_Y := (fun pc => xm_tb pc tb_60, fun ix => xm_as ix kc_3, fun ix => xm_as ix kf_3, fun ix => xm_as ix kn_3, fun ix => xm_as ix ks_3, fun ix => (xm_as ix kx_3).getD 0)
def ym_61 : xm_Y := (fun pc => xm_tb pc tb_61, fun ix => xm_as ix kc_3, fun ix => xm_as ix kf_3, fun ix => xm_as ix kn_3, fun ix => xm_as ix ks_3, fun ix => (xm_as ix kx_3).getD 0)
def ym_62 : xm_Y := (fun pc => xm_tb pc tb_62, fun ix => xm_as ix kc_3, fun ix => xm_as ix kf_3, fun ix => xm_as ix kn_3, fun ix => xm_as ix ks_3, fun ix => (xm_as ix kx_3).getD 0)
def ym_63 : xm_Y := (fun pc => xm_tb pc tb_63, fun ix => xm_as ix kc_3, fun ix => xm_as ix kf_3, fun ix => xm_as ix kn_3, fun ix => xm_as ix ks_3, fun ix => (xm_as ix kx_3).getD 0)
def ym_64 : xm_Y := (fun pc => xm_tb pc tb_64, fun ix => xm_as ix kc_3, fun ix => xm_as ix kf_3, fun ix => xm_as ix kn_3, fun ix => xm_as ix ks_3, fun ix => (xm_as ix kx_3).getD 0)
def ym_65 : xm_Y := (fun pc => xm_tb pc tb_65, fun ix => xm_as ix kc_3, fun ix => xm_as ix kf_3, fun ix => xm_as ix kn_3, fun ix => xm_as ix ks_3, fun ix => (xm_as ix kx_3).getD 0)
def ym_66 : xm_Y := (fun pc => xm_tb pc tb_66, fun ix => xm_as ix kc_3, fun ix => xm_as ix kf_3, fun ix => xm_as ix kn_3, fun ix => xm_as ix ks_3, fun ix => (xm_as ix kx_3).getD 0)
def ym_67 : xm_Y := (fun pc => xm_tb pc tb_67, fun ix => xm_as ix kc_3, fun ix => xm_as ix kf_3, fun ix => xm_as ix kn_3, fun ix => xm_as ix ks_3, fun ix => (xm_as ix kx_3).getD 0)
def ym_68 : xm_Y := (fun pc => xm_tb pc tb_68, fun ix => xm_as ix kc_3, fun ix => xm_as ix kf_3, fun ix => xm_as ix kn_3, fun ix => xm_as ix ks_3, fun ix => (xm_as ix kx_3).getD 0)
def ym_69 : xm_Y := (fun pc => xm_tb pc tb_69, fun ix => xm_as ix kc_6, fun ix => xm_as ix kf_6, fun ix => xm_as ix kn_6, fun ix => xm_as ix ks_6, fun ix => (xm_as ix kx_6).getD 0)
def ym_70 : xm_Y := (fun pc => xm_tb pc tb_70, fun ix => xm_as ix kc_6, fun ix => xm_as ix kf_6, fun ix => xm_as ix kn_6, fun ix => xm_as ix ks_6, fun ix => (xm_as ix kx_6).getD 0)
def ym_71 : xm_Y := (fun pc => xm_tb pc tb_71, fun ix => xm_as ix kc_6, fun ix => xm_as ix kf_6, fun ix => xm_as ix kn_6, fun ix => xm_as ix ks_6, fun ix => (xm_as ix kx_6).getD 0)
def ym_72 : xm_Y := (fun pc => xm_tb pc tb_72, fun ix => xm_as ix kc_6, fun ix => xm_as ix kf_6, fun ix => xm_as ix kn_6, fun ix => xm_as ix ks_6, fun ix => (xm_as ix kx_6).getD 0)
def ym_73 : xm_Y := (fun pc => xm_tb pc tb_73, fun ix => xm_as ix kc_6, fun ix => xm_as ix kf_6, fun ix => xm_as ix kn_6, fun ix => xm_as ix ks_6, fun ix => (xm_as ix kx_6).getD 0)
def ym_74 : xm_Y := (fun pc => xm_tb pc tb_74, fun ix => xm_as ix kc_0, fun ix => xm_as ix kf_0, fun ix => xm_as ix kn_0, fun ix => xm_as ix ks_0, fun ix => (xm_as ix kx_0).getD 0)
def ym_75 : xm_Y := (fun pc => xm_tb pc tb_75, fun ix => xm_as ix kc_0, fun ix => xm_as ix kf_0, fun ix => xm_as ix kn_0, fun ix => xm_as ix ks_0, fun ix => (xm_as ix kx_0).getD 0)
def ym_76 : xm_Y := (fun pc => xm_tb pc tb_76, fun ix => xm_as ix kc_6, fun ix => xm_as ix kf_6, fun ix => xm_as ix kn_6, fun ix => xm_as ix ks_6, fun ix => (xm_as ix kx_6).getD 0)
def ym_77 : xm_Y := (fun pc => xm_tb pc tb_77, fun ix => xm_as ix kc_0, fun ix => xm_as ix kf_0, fun ix => xm_as ix kn_0, fun ix => xm_as ix ks_0, fun ix => (xm_as ix kx_0).getD 0)
def ym_78 : xm_Y := (fun pc => xm_tb pc tb_78, fun ix => xm_as ix kc_0, fun ix => xm_as ix kf_0, fun ix => xm_as ix kn_0, fun ix => xm_as ix ks_0, fun ix => (xm_as ix kx_0).getD 0)
def ym_79 : xm_Y := (fun pc => xm_tb pc tb_79, fun ix => xm_as ix kc_9, fun ix => xm_as ix kf_9, fun ix => xm_as ix kn_9, fun ix => xm_as ix ks_9, fun ix => bif Nat.beq ix 0 then 9 else (xm_as ix kx_9).getD 0)
def ym_80 : xm_Y := (fun pc => xm_tb pc tb_80, fun ix => xm_as ix kc_9, fun ix => xm_as ix kf_9, fun ix => xm_as ix kn_9, fun ix => xm_as ix ks_9, fun ix => (xm_as ix kx_9).getD 0)
def ym_81 : xm_Y := (fun pc => xm_tb pc tb_81, fun ix => xm_as ix kc_9, fun ix => xm_as ix kf_9, fun ix => xm_as ix kn_9, fun ix => xm_as ix ks_9, fun ix => (xm_as ix kx_9).getD 0)
def ym_82 : xm_Y := (fun pc => xm_tb pc tb_82, fun ix => xm_as ix kc_9, fun ix => xm_as ix kf_9, fun ix => xm_as ix kn_9, fun ix => xm_as ix ks_9, fun ix => (xm_as ix kx_9).getD 0)
def ym_83 : xm_Y := (fun pc => xm_tb pc tb_83, fun ix => xm_as ix kc_9, fun ix => xm_as ix kf_9, fun ix => xm_as ix kn_9, fun ix => xm_as ix ks_9, fun ix => (xm_as ix kx_9).getD 0)
def ym_84 : xm_Y := (fun pc => xm_tb pc tb_84, fun ix => xm_as ix kc_9, fun ix => xm_as ix kf_9, fun ix => xm_as ix kn_9, fun ix => xm_as ix ks_9, fun ix => (xm_as ix kx_9).getD 0)
def ym_85 : xm_Y := (fun pc => xm_tb pc tb_85, fun ix => xm_as ix kc_9, fun ix => xm_as ix kf_9, fun ix => xm_as ix kn_9, fun ix => xm_as ix ks_9, fun ix => (xm_as ix kx_9).getD 0)
def ym_86 : xm_Y := (fun pc => xm_tb pc tb_86, fun ix => xm_as ix kc_9, fun ix => xm_as ix kf_9, fun ix => xm_as ix kn_9, fun ix => xm_as ix ks_9, fun ix => (xm_as ix kx_9).getD 0)
def ym_87 : xm_Y := (fun pc => xm_tb pc tb_87, fun ix => xm_as ix kc_9, fun ix => xm_as ix kf_9, fun ix => xm_as ix kn_9, fun ix => xm_as ix ks_9, fun ix => (xm_as ix kx_9).getD 0)
def ym_88 : xm_Y := (fun pc => xm_tb pc tb_88, fun ix => xm_as ix kc_9, fun ix => xm_as ix kf_9, fun ix => xm_as ix kn_9, fun ix => xm_as ix ks_9, fun ix => (xm_as ix kx_9).getD 0)
def ym_89 : xm_Y := (fun pc => xm_tb pc tb_89, fun ix => xm_as ix kc_9, fun ix => xm_as ix kf_9, fun ix => xm_as ix kn_9, fun ix => xm_as ix ks_9, fun ix => (xm_as ix kx_9).getD 0)
def ym_90 : xm_Y := (fun pc => xm_tb pc tb_90, fun ix => xm_as ix kc_9, fun ix => xm_as ix kf_9, fun ix => xm_as ix kn_9, fun ix => xm_as ix ks_9, fun ix => (xm_as ix kx_9).getD 0)
def ym_91 : xm_Y := (fun pc => xm_tb pc tb_91, fun ix => xm_as ix kc_9, fun ix => xm_as ix kf_9, fun ix => xm_as ix kn_9, fun ix => xm_as ix ks_9, fun ix => (xm_as ix kx_9).getD 0)
def ym_92 : xm_Y := (fun pc => xm_tb pc tb_92, fun ix => xm_as ix kc_9, fun ix => xm_as ix kf_9, fun ix => xm_as ix kn_9, fun ix => xm_as ix ks_9, fun ix => (xm_as ix kx_9).getD 0)
def ym_93 : xm_Y := (fun pc => xm_tb pc tb_93, fun ix => xm_as ix kc_9, fun ix => xm_as ix kf_9, fun ix => xm_as ix kn_9, fun ix => xm_as ix ks_9, fun ix => (xm_as ix kx_9).getD 0)
def ym_94 : xm_Y := (fun pc => xm_tb pc tb_94, fun ix => xm_as ix kc_9, fun ix => xm_as ix kf_9, fun ix => xm_as ix kn_9, fun ix => xm_as ix ks_9, fun ix => (xm_as ix kx_9).getD 0)
def ym_95 : xm_Y := (fun pc => xm_tb pc tb_95, fun ix => xm_as ix kc_9, fun ix => xm_as ix kf_9, fun ix => xm_as ix kn_9, fun ix => xm_as ix ks_9, fun ix => (xm_as ix kx_9).getD 0)
def ym_96 : xm_Y := (fun pc => xm_tb pc tb_96, fun ix => xm_as ix kc_9, fun ix => xm_as ix kf_9, fun ix => xm_as ix kn_9, fun ix => xm_as ix ks_9, fun ix => (xm_as ix kx_9).getD 0)
def ym_97 : xm_Y := (fun pc => xm_tb pc tb_97, fun ix => xm_as ix kc_9, fun ix => xm_as ix kf_9, fun ix => xm_as ix kn_9, fun ix => xm_as ix ks_9, fun ix => (xm_as ix kx_9).getD 0)
def ym_98 : xm_Y := (fun pc => xm_tb pc tb_98, fun ix => xm_as ix kc_9, fun ix => xm_as ix kf_9, fun ix => xm_as ix kn_9, fun ix => xm_as ix ks_9, fun ix => (xm_as ix kx_9).getD 0)
def ym_99 : xm_Y := (fun pc => xm_tb pc tb_99, fun ix => xm_as ix kc_9, fun ix => xm_as ix kf_9, fun ix => xm_as ix kn_9, fun ix => xm_as ix ks_9, fun ix => (xm_as ix kx_9).getD 0)
def ym_100 : xm_Y := (fun pc => xm_tb pc tb_100, fun ix => xm_as ix kc_9, fun ix => xm_as ix kf_9, fun ix => xm_as ix kn_9, fun ix => xm_as ix ks_9, fun ix => (xm_as ix kx_9).getD 0)
def ym_101 : xm_Y := (fun pc => xm_tb pc tb_101, fun ix => xm_as ix kc_9, fun ix => xm_as ix kf_9, fun ix => xm_as ix kn_9, fun ix => xm_as ix ks_9, fun ix => (xm_as ix kx_9).getD 0)
def ym_102 : xm_Y := (fun pc => xm_tb pc tb_102, fun ix => xm_as ix kc_9, fun ix => xm_as ix kf_9, fun ix => xm_as ix kn_9, fun ix => xm_as ix ks_9, fun ix => (xm_as ix kx_9).getD 0)
def ym_103 : xm_Y := (fun pc => xm_tb pc tb_103, fun ix => xm_as ix kc_9, fun ix => xm_as ix kf_9, fun ix => xm_as ix kn_9, fun ix => xm_as ix ks_9, fun ix => (xm_as ix kx_9).getD 0)
def ym_104 : xm_Y := (fun pc => xm_tb pc tb_104, fun ix => xm_as ix kc_9, fun ix => xm_as ix kf_9, fun ix => xm_as ix kn_9, fun ix => xm_as ix ks_9, fun ix => (xm_as ix kx_9).getD 0)
def ym_105 : xm_Y := (fun pc => xm_tb pc tb_105, fun ix => xm_as ix kc_9, fun ix => xm_as ix kf_9, fun ix => xm_as ix kn_9, fun ix => xm_as ix ks_9, fun ix => (xm_as ix kx_9).getD 0)
def ym_106 : xm_Y := (fun pc => xm_tb pc tb_106, fun ix => xm_as ix kc_9, fun ix => xm_as ix kf_9, fun ix => xm_as ix kn_9, fun ix => xm_as ix ks_9, fun ix => (xm_as ix kx_9).getD 0)
def ym_107 : xm_Y := (fun pc => xm_tb pc tb_107, fun ix => xm_as ix kc_9, fun ix => xm_as ix kf_9, fun ix => xm_as ix kn_9, fun ix => xm_as ix ks_9, fun ix => (xm_as ix kx_9).getD 0)
def ym_108 : xm_Y := (fun pc => xm_tb pc tb_108, fun ix => xm_as ix kc_9, fun ix => xm_as ix kf_9, fun ix => xm_as ix kn_9, fun ix => xm_as ix ks_9, fun ix => (xm_as ix kx_9).getD 0)
def ym_109 : xm_Y := (fun pc => xm_tb pc tb_109, fun ix => xm_as ix kc_9, fun ix => xm_as ix kf_9, fun ix => xm_as ix kn_9, fun ix => xm_as ix ks_9, fun ix => (xm_as ix kx_9).getD 0)
def ym_110 : xm_Y := (fun pc => xm_tb pc tb_110, fun ix => xm_as ix kc_9, fun ix => xm_as ix kf_9, fun ix => xm_as ix kn_9, fun ix => xm_as ix ks_9, fun ix => (xm_as ix kx_9).getD 0)
def ym_111 : xm_Y := (fun pc => xm_tb pc tb_111, fun ix => xm_as ix kc_9, fun ix => xm_as ix kf_9, fun ix => xm_as ix kn_9, fun ix => xm_as ix ks_9, fun ix => (xm_as ix kx_9).getD 0)
def ym_112 : xm_Y := (fun pc => xm_tb pc tb_112, fun ix => xm_as ix kc_9, fun ix => xm_as ix kf_9, fun ix => xm_as ix kn_9, fun ix => xm_as ix ks_9, fun ix => (xm_as ix kx_9).getD 0)
def ym_113 : xm_Y := (fun pc => xm_tb pc tb_113, fun ix => xm_as ix kc_9, fun ix => xm_as ix kf_9, fun ix => xm_as ix kn_9, fun ix => xm_as ix ks_9, fun ix => (xm_as ix kx_9).getD 0)
def ym_114 : xm_Y := (fun pc => xm_tb pc tb_114, fun ix => xm_as ix kc_9, fun ix => xm_as ix kf_9, fun ix => xm_as ix kn_9, fun ix => xm_as ix ks_9, fun ix => (xm_as ix kx_9).getD 0)
def ym_115 : xm_Y := (fun pc => xm_tb pc tb_115, fun ix => xm_as ix kc_9, fun ix => xm_as ix kf_9, fun ix => xm_as ix kn_9, fun ix => xm_as ix ks_9, fun ix => (xm_as ix kx_9).getD 0)
def ym_116 : xm_Y := (fun pc => xm_tb pc tb_116, fun ix => xm_as ix kc_9, fun ix => xm_as ix kf_9, fun ix => xm_as ix kn_9, fun ix => xm_as ix ks_9, fun ix => (xm_as ix kx_9).getD 0)
def ym_117 : xm_Y := (fun pc => xm_tb pc tb_117, fun ix => xm_as ix kc_9, fun ix => xm_as ix kf_9, fun ix => xm_as ix kn_9, fun ix => xm_as ix ks_9, fun ix => (xm_as ix kx_9).getD 0)
def ym_118 : xm_Y := (fun pc => xm_tb pc tb_118, fun ix => xm_as ix kc_9, fun ix => xm_as ix kf_9, fun ix => xm_as ix kn_9, fun ix => xm_as ix ks_9, fun ix => (xm_as ix kx_9).getD 0)
def ym_119 : xm_Y := (fun pc => xm_tb pc tb_119, fun ix => xm_as ix kc_9, fun ix => xm_as ix kf_9, fun ix => xm_as ix kn_9, fun ix => xm_as ix ks_9, fun ix => (xm_as ix kx_9).getD 0)
def xm_y0 : xm_Y := (fun _ => none, fun _ => none, fun _ => none, fun _ => none, fun _ => none, fun _ => 0)
def xm_yl : List (List xm_Y) := [[ym_0, ym_1, ym_2, ym_3, ym_4, ym_5, ym_6, ym_7, ym_8, ym_9, ym_10, ym_11, ym_12, ym_13, ym_14, ym_15], [ym_16, ym_17, ym_18, ym_19, ym_20, ym_21, ym_22, ym_23, ym_24, ym_25, ym_26, ym_27, ym_28, ym_29, ym_30, ym_31], [ym_32, ym_33, ym_34, ym_35, ym_36, ym_37, ym_38, ym_39, ym_40, ym_41, ym_42, ym_43, ym_44, ym_45, ym_46, ym_47], [ym_48, ym_49, ym_50, ym_51, ym_52, ym_53, ym_54, ym_55, ym_56, ym_57, ym_58, ym_59, ym_60, ym_61, ym_62, ym_63], [ym_64, ym_65, ym_66, ym_67, ym_68, ym_69, ym_70, ym_71, ym_72, ym_73, ym_74, ym_75, ym_76, ym_77, ym_78, ym_79], [ym_80, ym_81, ym_82, ym_83, ym_84, ym_85, ym_86, ym_87, ym_88, ym_89, ym_90, ym_91, ym_92, ym_93, ym_94, ym_95], [ym_96, ym_97, ym_98, ym_99, ym_100, ym_101, ym_102, ym_103, ym_104, ym_105, ym_106, ym_107, ym_108, ym_109, ym_110, ym_111], [ym_112, ym_113, ym_114, ym_115, ym_116, ym_117, ym_118, ym_119]]
def xm_ll : List (List Nat) := [[4, 1, 1, 4, 2, 2, 1, 3, 2, 2, 4, 4, 2, 1, 1, 1], [5, 1, 2, 7, 1, 8, 8, 3, 3, 4, 1, 4, 2, 5, 5, 3], [5, 2, 6, 1, 6, 6, 8, 1, 1, 2, 3, 2, 3, 2, 4, 3], [10, 7, 2, 4, 2, 4, 4, 1, 7, 5, 3, 10, 7, 4, 4, 4], [4, 5, 5, 4, 4, 4, 2, 2, 6, 4, 2, 3, 2, 1, 3, 1], [4, 2, 1, 5, 9, 1, 1, 16, 7, 4, 8, 3, 4, 5, 5, 7], [6, 2, 5, 4, 4, 6, 5, 11, 4, 7, 4, 14, 3, 4, 5, 6], [2, 5, 7, 2, 2, 4, 3, 3]]
def xm_kl : List (List Nat) := [[4, 0, 0, 0, 0, 0, 0, 0, 0, 0, 1, 4, 4, 4, 4, 4], [1, 4, 1, 1, 1, 1, 0, 4, 4, 1, 1, 1, 1, 1, 1, 1], [4, 1, 0, 0, 0, 0, 0, 2, 2, 0, 3, 1, 1, 1, 4, 0], [4, 3, 1, 1, 1, 1, 1, 0, 4, 2, 1, 2, 2, 1, 4, 4], [4, 1, 4, 1, 1, 0, 0, 1, 0, 0, 1, 1, 4, 4, 1, 0], [1, 4, 4, 1, 1, 1, 1, 1, 1, 1, 1, 1, 0, 0, 0, 0], [0, 1, 4, 0, 1, 4, 0, 0, 1, 4, 1, 2, 1, 0, 4, 1], [4, 1, 0, 1, 1, 1, 4, 1]]
def xm_cl : List (List (List (Nat × Nat × Nat × Nat × Nat))) := [[kl_8, kl_0, kl_2, kl_11, kl_7, kl_5, kl_4, kl_1, kl_3, kl_6, kl_0, kl_2, kl_2, kl_2, kl_2, kl_2], [kl_2, kl_2, kl_0, kl_2, kl_0, kl_0, kl_7, kl_7, kl_2, kl_7, kl_7, kl_7, kl_7, kl_7, kl_7, kl_0], [kl_5, kl_5, kl_5, kl_4, kl_4, kl_5, kl_5, kl_4, kl_4, kl_5, kl_11, kl_10, kl_5, kl_0, kl_1, kl_1], [kl_1, kl_5, kl_4, kl_1, kl_4, kl_1, kl_0, kl_6, kl_3, kl_3, kl_3, kl_3, kl_3, kl_3, kl_3, kl_3], [kl_3, kl_3, kl_3, kl_3, kl_3, kl_6, kl_6, kl_6, kl_6, kl_6, kl_0, kl_0, kl_6, kl_0, kl_0, kl_9], [kl_9, kl_9, kl_9, kl_9, kl_9, kl_9, kl_9, kl_9, kl_9, kl_9, kl_9, kl_9, kl_9, kl_9, kl_9, kl_9], [kl_9, kl_9, kl_9, kl_9, kl_9, kl_9, kl_9, kl_9, kl_9, kl_9, kl_9, kl_9, kl_9, kl_9, kl_9, kl_9], [kl_9, kl_9, kl_9, kl_9, kl_9, kl_9, kl_9, kl_9]]
def pg : xm_Pr := (fun y => xm_nn xm_y0 y xm_yl, fun y => xm_nn 0 y xm_ll, fun y => xm_nn 0 y xm_kl, fun y ix => xm_as ix (xm_nn [] y xm_cl))
theorem in_0 {pc : Nat} {i : Jvm.ClassFile.Instr × Nat} (h : xm_tb pc tb_0 = some i) : (pg.1 0).1 pc = some i := h
theorem nl_0 {a : Nat} (h : Nat.ble (a + 1) 4 = true) : a < pg.2.1 0 := Nat.le_of_ble_eq_true h
theorem kd_0 : pg.2.2.1 0 = 4 := rfl
theorem cl_0 {ix : Nat} {q : Nat × Nat × Nat × Nat} (h : xm_as ix kl_8 = some q) : pg.2.2.2 0 ix = some q := h
theorem fo_0 {ix : Nat} {q : Nat × Nat × Nat} (h : xm_as ix kf_8 = some q) : (pg.1 0).2.2.1 ix = some q := h
theorem ko_0 {ix : Nat} {q : xm_V} (h : xm_as ix kc_8 = some q) : (pg.1 0).2.1 ix = some q := h
theorem so_0 {ix : Nat} {q : Nat} (h : xm_as ix ks_8 = some q) : (pg.1 0).2.2.2.2.1 ix = some q := h
theorem no_0 {ix : Nat} {q : Nat × List xm_F} (h : xm_as ix kn_8 = some q) : (pg.1 0).2.2.2.1 ix = some q := h
theorem xo_0 {ix q : Nat} (h : (ym_0).2.2.2.2.2 ix = q) : (pg.1 0).2.2.2.2.2 ix = q := h
theorem in_1 {pc : Nat} {i : Jvm.ClassFile.Instr × Nat} (h : xm_tb pc tb_1 = some i) : (pg.1 1).1 pc = some i := h
theorem nl_1 {a : Nat} (h : Nat.ble (a + 1) 1 = true) : a < pg.2.1 1 := Nat.le_of_ble_eq_true h
theorem kd_1 : pg.2.2.1 1 = 0 := rfl
theorem cl_1 {ix : Nat} {q : Nat × Nat × Nat × Nat} (h : xm_as ix kl_0 = some q) : pg.2.2.2 1 ix = some q := h
theorem fo_1 {ix : Nat} {q : Nat × Nat × Nat} (h : xm_as ix kf_0 = some q) : (pg.1 1).2.2.1 ix = some q := h
theorem ko_1 {ix : Nat} {q : xm_V} (h : xm_as ix kc_0 = some q) : (pg.1 1).2.1 ix = some q := h
theorem so_1 {ix : Nat} {q : Nat} (h : xm_as ix ks_0 = some q) : (pg.1 1).2.2.2.2.1 ix = some q := h
theorem no_1 {ix : Nat} {q : Nat × List xm_F} (h : xm_as ix kn_0 = some q) : (pg.1 1).2.2.2.1 ix = some q := h
theorem xo_1 {ix q : Nat} (h : (ym_1).2.2.2.2.2 ix = q) : (pg.1 1).2.2.2.2.2 ix = q := h
theorem in_2 {pc : Nat} {i : Jvm.ClassFile.Instr × Nat} (h : xm_tb pc tb_2 = some i) : (pg.1 2).1 pc = some i := h
theorem nl_2 {a : Nat} (h : Nat.ble (a + 1) 1 = true) : a < pg.2.1 2 := Nat.le_of_ble_eq_true h
theorem kd_2 : pg.2.2.1 2 = 0 := rfl
theorem cl_2 {ix : Nat} {q : Nat × Nat × Nat × Nat} (h : xm_as ix kl_2 = some q) : pg.2.2.2 2 ix = some q := h
theorem fo_2 {ix : Nat} {q : Nat × Nat × Nat} (h : xm_as ix kf_2 = some q) : (pg.1 2).2.2.1 ix = some q := h
theorem ko_2 {ix : Nat} {q : xm_V} (h : xm_as ix kc_2 = some q) : (pg.1 2).2.1 ix = some q := h
theorem so_2 {ix : Nat} {q : Nat} (h : xm_as ix ks_2 = some q) : (pg.1 2).2.2.2.2.1 ix = some q := h
theorem no_2 {ix : Nat} {q : Nat × List xm_F} (h : xm_as ix kn_2 = some q) : (pg.1 2).2.2.2.1 ix = some q := h
theorem xo_2 {ix q : Nat} (h : (ym_2).2.2.2.2.2 ix = q) : (pg.1 2).2.2.2.2.2 ix = q := h
theorem in_3 {pc : Nat} {i : Jvm.ClassFile.Instr × Nat} (h : xm_tb pc tb_3 = some i) : (pg.1 3).1 pc = some i := h
theorem nl_3 {a : Nat} (h : Nat.ble (a + 1) 4 = true) : a < pg.2.1 3 := Nat.le_of_ble_eq_true h
theorem kd_3 : pg.2.2.1 3 = 0 := rfl
theorem cl_3 {ix : Nat} {q : Nat × Nat × Nat × Nat} (h : xm_as ix kl_11 = some q) : pg.2.2.2 3 ix = some q := h
theorem fo_3 {ix : Nat} {q : Nat × Nat × Nat} (h : xm_as ix kf_11 = some q) : (pg.1 3).2.2.1 ix = some q := h
theorem ko_3 {ix : Nat} {q : xm_V} (h : xm_as ix kc_11 = some q) : (pg.1 3).2.1 ix = some q := h
theorem so_3 {ix : Nat} {q : Nat} (h : xm_as ix ks_11 = some q) : (pg.1 3).2.2.2.2.1 ix = some q := h
theorem no_3 {ix : Nat} {q : Nat × List xm_F} (h : xm_as ix kn_11 = some q) : (pg.1 3).2.2.2.1 ix = some q := h
theorem xo_3 {ix q : Nat} (h : (ym_3).2.2.2.2.2 ix = q) : (pg.1 3).2.2.2.2.2 ix = q := h
theorem in_4 {pc : Nat} {i : Jvm.ClassFile.Instr × Nat} (h : xm_tb pc tb_4 = some i) : (pg.1 4).1 pc = some i := h
theorem nl_4 {a : Nat} (h : Nat.ble (a + 1) 2 = true) : a < pg.2.1 4 := Nat.le_of_ble_eq_true h
theorem kd_4 : pg.2.2.1 4 = 0 := rfl
theorem cl_4 {ix : Nat} {q : Nat × Nat × Nat × Nat} (h : xm_as ix kl_7 = some q) : pg.2.2.2 4 ix = some q := h
theorem fo_4 {ix : Nat} {q : Nat × Nat × Nat} (h : xm_as ix kf_7 = some q) : (pg.1 4).2.2.1 ix = some q := h
theorem ko_4 {ix : Nat} {q : xm_V} (h : xm_as ix kc_7 = some q) : (pg.1 4).2.1 ix = some q := h
theorem so_4 {ix : Nat} {q : Nat} (h : xm_as ix ks_7 = some q) : (pg.1 4).2.2.2.2.1 ix = some q := h
theorem no_4 {ix : Nat} {q : Nat × List xm_F} (h : xm_as ix kn_7 = some q) : (pg.1 4).2.2.2.1 ix = some q := h
theorem xo_4 {ix q : Nat} (h : (ym_4).2.2.2.2.2 ix = q) : (pg.1 4).2.2.2.2.2 ix = q := h
theorem in_5 {pc : Nat} {i : Jvm.ClassFile.Instr × Nat} (h : xm_tb pc tb_5 = some i) : (pg.1 5).1 pc = some i := h
theorem nl_5 {a : Nat} (h : Nat.ble (a + 1) 2 = true) : a < pg.2.1 5 := Nat.le_of_ble_eq_true h
theorem kd_5 : pg.2.2.1 5 = 0 := rfl
theorem cl_5 {ix : Nat} {q : Nat × Nat × Nat × Nat} (h : xm_as ix kl_5 = some q) : pg.2.2.2 5 ix = some q := h
theorem fo_5 {ix : Nat} {q : Nat × Nat × Nat} (h : xm_as ix kf_5 = some q) : (pg.1 5).2.2.1 ix = some q := h
theorem ko_5 {ix : Nat} {q : xm_V} (h : xm_as ix kc_5 = some q) : (pg.1 5).2.1 ix = some q := h
theorem so_5 {ix : Nat} {q : Nat} (h : xm_as ix ks_5 = some q) : (pg.1 5).2.2.2.2.1 ix = some q := h
theorem no_5 {ix : Nat} {q : Nat × List xm_F} (h : xm_as ix kn_5 = some q) : (pg.1 5).2.2.2.1 ix = some q := h
theorem xo_5 {ix q : Nat} (h : (ym_5).2.2.2.2.2 ix = q) : (pg.1 5).2.2.2.2.2 ix = q := h
theorem in_6 {pc : Nat} {i : Jvm.ClassFile.Instr × Nat} (h : xm_tb pc tb_6 = some i) : (pg.1 6).1 pc = some i := h
theorem nl_6 {a : Nat} (h : Nat.ble (a + 1) 1 = true) : a < pg.2.1 6 := Nat.le_of_ble_eq_true h
theorem kd_6 : pg.2.2.1 6 = 0 := rfl
theorem cl_6 {ix : Nat} {q : Nat × Nat × Nat × Nat} (h : xm_as ix kl_4 = some q) : pg.2.2.2 6 ix = some q := h
theorem fo_6 {ix : Nat} {q : Nat × Nat × Nat} (h : xm_as ix kf_4 = some q) : (pg.1 6).2.2.1 ix = some q := h
theorem ko_6 {ix : Nat} {q : xm_V} (h : xm_as ix kc_4 = some q) : (pg.1 6).2.1 ix = some q := h
theorem so_6 {ix : Nat} {q : Nat} (h : xm_as ix ks_4 = some q) : (pg.1 6).2.2.2.2.1 ix = some q := h
theorem no_6 {ix : Nat} {q : Nat × List xm_F} (h : xm_as ix kn_4 = some q) : (pg.1 6).2.2.2.1 ix = some q := h
theorem xo_6 {ix q : Nat} (h : (ym_6).2.2.2.2.2 ix = q) : (pg.1 6).2.2.2.2.2 ix = q := h
theorem in_7 {pc : Nat} {i : Jvm.ClassFile.Instr × Nat} (h : xm_tb pc tb_7 = some i) : (pg.1 7).1 pc = some i := h
theorem nl_7 {a : Nat} (h : Nat.ble (a + 1) 3 = true) : a < pg.2.1 7 := Nat.le_of_ble_eq_true h
theorem kd_7 : pg.2.2.1 7 = 0 := rfl
theorem cl_7 {ix : Nat} {q : Nat × Nat × Nat × Nat} (h : xm_as ix kl_1 = some q) : pg.2.2.2 7 ix = some q := h
theorem fo_7 {ix : Nat} {q : Nat × Nat × Nat} (h : xm_as ix kf_1 = some q) : (pg.1 7).2.2.1 ix = some q := h
theorem ko_7 {ix : Nat} {q : xm_V} (h : xm_as ix kc_1 = some q) : (pg.1 7).2.1 ix = some q := h
theorem so_7 {ix : Nat} {q : Nat} (h : xm_as ix ks_1 = some q) : (pg.1 7).2.2.2.2.1 ix = some q := h
theorem no_7 {ix : Nat} {q : Nat × List xm_F} (h : xm_as ix kn_1 = some q) : (pg.1 7).2.2.2.1 ix = some q := h
theorem xo_7 {ix q : Nat} (h : (ym_7).2.2.2.2.2 ix = q) : (pg.1 7).2.2.2.2.2 ix = q := h
theorem in_8 {pc : Nat} {i : Jvm.ClassFile.Instr × Nat} (h : xm_tb pc tb_8 = some i) : (pg.1 8).1 pc = some i := h
theorem nl_8 {a : Nat} (h : Nat.ble (a + 1) 2 = true) : a < pg.2.1 8 := Nat.le_of_ble_eq_true h
theorem kd_8 : pg.2.2.1 8 = 0 := rfl
theorem cl_8 {ix : Nat} {q : Nat × Nat × Nat × Nat} (h : xm_as ix kl_3 = some q) : pg.2.2.2 8 ix = some q := h
theorem fo_8 {ix : Nat} {q : Nat × Nat × Nat} (h : xm_as ix kf_3 = some q) : (pg.1 8).2.2.1 ix = some q := h
theorem ko_8 {ix : Nat} {q : xm_V} (h : xm_as ix kc_3 = some q) : (pg.1 8).2.1 ix = some q := h
theorem so_8 {ix : Nat} {q : Nat} (h : xm_as ix ks_3 = some q) : (pg.1 8).2.2.2.2.1 ix = some q := h
theorem no_8 {ix : Nat} {q : Nat × List xm_F} (h : xm_as ix kn_3 = some q) : (pg.1 8).2.2.2.1 ix = some q := h
theorem xo_8 {ix q : Nat} (h : (ym_8).2.2.2.2.2 ix = q) : (pg.1 8).2.2.2.2.2 ix = q := h
theorem in_9 {pc : Nat} {i : Jvm.ClassFile.Instr × Nat} (h : xm_tb pc tb_9 = some i) : (pg.1 9).1 pc = some i := h
theorem nl_9 {a : Nat} (h : Nat.ble (a + 1) 2 = true) : a < pg.2.1 9 := Nat.le_of_ble_eq_true h
theorem kd_9 : pg.2.2.1 9 = 0 := rfl
theorem cl_9 {ix : Nat} {q : Nat × Nat × Nat × Nat} (h : xm_as ix kl_6 = some q) : pg.2.2.2 9 ix = some q := h
theorem fo_9 {ix : Nat} {q : Nat × Nat × Nat} (h : xm_as ix kf_6 = some q) : (pg.1 9).2.2.1 ix = some q := h
theorem ko_9 {ix : Nat} {q : xm_V} (h : xm_as ix kc_6 = some q) : (pg.1 9).2.1 ix = some q := h
theorem so_9 {ix : Nat} {q : Nat} (h : xm_as ix ks_6 = some q) : (pg.1 9).2.2.2.2.1 ix = some q := h
theorem no_9 {ix : Nat} {q : Nat × List xm_F} (h : xm_as ix kn_6 = some q) : (pg.1 9).2.2.2.1 ix = some q := h
theorem xo_9 {ix q : Nat} (h : (ym_9).2.2.2.2.2 ix = q) : (pg.1 9).2.2.2.2.2 ix = q := h
theorem in_10 {pc : Nat} {i : Jvm.ClassFile.Instr × Nat} (h : xm_tb pc tb_10 = some i) : (pg.1 10).1 pc = some i := h
theorem nl_10 {a : Nat} (h : Nat.ble (a + 1) 4 = true) : a < pg.2.1 10 := Nat.le_of_ble_eq_true h
theorem kd_10 : pg.2.2.1 10 = 1 := rfl
theorem cl_10 {ix : Nat} {q : Nat × Nat × Nat × Nat} (h : xm_as ix kl_0 = some q) : pg.2.2.2 10 ix = some q := h
theorem fo_10 {ix : Nat} {q : Nat × Nat × Nat} (h : xm_as ix kf_0 = some q) : (pg.1 10).2.2.1 ix = some q := h
theorem ko_10 {ix : Nat} {q : xm_V} (h : xm_as ix kc_0 = some q) : (pg.1 10).2.1 ix = some q := h
theorem so_10 {ix : Nat} {q : Nat} (h : xm_as ix ks_0 = some q) : (pg.1 10).2.2.2.2.1 ix = some q := h
theorem no_10 {ix : Nat} {q : Nat × List xm_F} (h : xm_as ix kn_0 = some q) : (pg.1 10).2.2.2.1 ix = some q := h
theorem xo_10 {ix q : Nat} (h : (ym_10).2.2.2.2.2 ix = q) : (pg.1 10).2.2.2.2.2 ix = q := h
theorem in_11 {pc : Nat} {i : Jvm.ClassFile.Instr × Nat} (h : xm_tb pc tb_11 = some i) : (pg.1 11).1 pc = some i := h
theorem nl_11 {a : Nat} (h : Nat.ble (a + 1) 4 = true) : a < pg.2.1 11 := Nat.le_of_ble_eq_true h
theorem kd_11 : pg.2.2.1 11 = 4 := rfl
theorem cl_11 {ix : Nat} {q : Nat × Nat × Nat × Nat} (h : xm_as ix kl_2 = some q) : pg.2.2.2 11 ix = some q := h
theorem fo_11 {ix : Nat} {q : Nat × Nat × Nat} (h : xm_as ix kf_2 = some q) : (pg.1 11).2.2.1 ix = some q := h
theorem ko_11 {ix : Nat} {q : xm_V} (h : xm_as ix kc_2 = some q) : (pg.1 11).2.1 ix = some q := h
theorem so_11 {ix : Nat} {q : Nat} (h : xm_as ix ks_2 = some q) : (pg.1 11).2.2.2.2.1 ix = some q := h
theorem no_11 {ix : Nat} {q : Nat × List xm_F} (h : xm_as ix kn_2 = some q) : (pg.1 11).2.2.2.1 ix = some q := h
theorem xo_11 {ix q : Nat} (h : (ym_11).2.2.2.2.2 ix = q) : (pg.1 11).2.2.2.2.2 ix = q := h
theorem in_12 {pc : Nat} {i : Jvm.ClassFile.Instr × Nat} (h : xm_tb pc tb_12 = some i) : (pg.1 12).1 pc = some i := h
theorem nl_12 {a : Nat} (h : Nat.ble (a + 1) 2 = true) : a < pg.2.1 12 := Nat.le_of_ble_eq_true h
theorem kd_12 : pg.2.2.1 12 = 4 := rfl
theorem cl_12 {ix : Nat} {q : Nat × Nat × Nat × Nat} (h : xm_as ix kl_2 = some q) : pg.2.2.2 12 ix = some q := h
theorem fo_12 {ix : Nat} {q : Nat × Nat × Nat} (h : xm_as ix kf_2 = some q) : (pg.1 12).2.2.1 ix = some q := h
theorem ko_12 {ix : Nat} {q : xm_V} (h : xm_as ix kc_2 = some q) : (pg.1 12).2.1 ix = some q := h
theorem so_12 {ix : Nat} {q : Nat} (h : xm_as ix ks_2 = some q) : (pg.1 12).2.2.2.2.1 ix = some q := h
theorem no_12 {ix : Nat} {q : Nat × List xm_F} (h : xm_as ix kn_2 = some q) : (pg.1 12).2.2.2.1 ix = some q := h
theorem xo_12 {ix q : Nat} (h : (ym_12).2.2.2.2.2 ix = q) : (pg.1 12).2.2.2.2.2 ix = q := h
theorem in_13 {pc : Nat} {i : Jvm.ClassFile.Instr × Nat} (h : xm_tb pc tb_13 = some i) : (pg.1 13).1 pc = some i := h
theorem nl_13 {a : Nat} (h : Nat.ble (a + 1) 1 = true) : a < pg.2.1 13 := Nat.le_of_ble_eq_true h
theorem kd_13 : pg.2.2.1 13 = 4 := rfl
theorem cl_13 {ix : Nat} {q : Nat × Nat × Nat × Nat} (h : xm_as ix kl_2 = some q) : pg.2.2.2 13 ix = some q := h
theorem fo_13 {ix : Nat} {q : Nat × Nat × Nat} (h : xm_as ix kf_2 = some q) : (pg.1 13).2.2.1 ix = some q := h
theorem ko_13 {ix : Nat} {q : xm_V} (h : xm_as ix kc_2 = some q) : (pg.1 13).2.1 ix = some q := h
theorem so_13 {ix : Nat} {q : Nat} (h : xm_as ix ks_2 = some q) : (pg.1 13).2.2.2.2.1 ix = some q := h
theorem no_13 {ix : Nat} {q : Nat × List xm_F} (h : xm_as ix kn_2 = some q) : (pg.1 13).2.2.2.1 ix = some q := h
theorem xo_13 {ix q : Nat} (h : (ym_13).2.2.2.2.2 ix = q) : (pg.1 13).2.2.2.2.2 ix = q := h
theorem in_14 {pc : Nat} {i : Jvm.ClassFile.Instr × Nat} (h : xm_tb pc tb_14 = some i) : (pg.1 14).1 pc = some i := h
theorem nl_14 {a : Nat} (h : Nat.ble (a + 1) 1 = true) : a < pg.2.1 14 := Nat.le_of_ble_eq_true h
theorem kd_14 : pg.2.2.1 14 = 4 := rfl
theorem cl_14 {ix : Nat} {q : Nat × Nat × Nat × Nat} (h : xm_as ix kl_2 = some q) : pg.2.2.2 14 ix = some q := h
theorem fo_14 {ix : Nat} {q : Nat × Nat × Nat} (h : xm_as ix kf_2 = some q) : (pg.1 14).2.2.1 ix = some q := h
theorem ko_14 {ix : Nat} {q : xm_V} (h : xm_as ix kc_2 = some q) : (pg.1 14).2.1 ix = some q := h
theorem so_14 {ix : Nat} {q : Nat} (h : xm_as ix ks_2 = some q) : (pg.1 14).2.2.2.2.1 ix = some q := h
theorem no_14 {ix : Nat} {q : Nat × List xm_F} (h : xm_as ix kn_2 = some q) : (pg.1 14).2.2.2.1 ix = some q := h
theorem xo_14 {ix q : Nat} (h : (ym_14).2.2.2.2.2 ix = q) : (pg.1 14).2.2.2.2.2 ix = q := h
theorem in_15 {pc : Nat} {i : Jvm.ClassFile.Instr × Nat} (h : xm_tb pc tb_15 = some i) : (pg.1 15).1 pc = some i := h
theorem nl_15 {a : Nat} (h : Nat.ble (a + 1) 1 = true) : a < pg.2.1 15 := Nat.le_of_ble_eq_true h
theorem kd_15 : pg.2.2.1 15 = 4 := rfl
theorem cl_15 {ix : Nat} {q : Nat × Nat × Nat × Nat} (h : xm_as ix kl_2 = some q) : pg.2.2.2 15 ix = some q := h
theorem fo_15 {ix : Nat} {q : Nat × Nat × Nat} (h : xm_as ix kf_2 = some q) : (pg.1 15).2.2.1 ix = some q := h
theorem ko_15 {ix : Nat} {q : xm_V} (h : xm_as ix kc_2 = some q) : (pg.1 15).2.1 ix = some q := h
theorem so_15 {ix : Nat} {q : Nat} (h : xm_as ix ks_2 = some q) : (pg.1 15).2.2.2.2.1 ix = some q := h
theorem no_15 {ix : Nat} {q : Nat × List xm_F} (h : xm_as ix kn_2 = some q) : (pg.1 15).2.2.2.1 ix = some q := h
theorem xo_15 {ix q : Nat} (h : (ym_15).2.2.2.2.2 ix = q) : (pg.1 15).2.2.2.2.2 ix = q := h
theorem in_16 {pc : Nat} {i : Jvm.ClassFile.Instr × Nat} (h : xm_tb pc tb_16 = some i) : (pg.1 16).1 pc = some i := h
theorem nl_16 {a : Nat} (h : Nat.ble (a + 1) 5 = true) : a < pg.2.1 16 := Nat.le_of_ble_eq_true h
theorem kd_16 : pg.2.2.1 16 = 1 := rfl
theorem cl_16 {ix : Nat} {q : Nat × Nat × Nat × Nat} (h : xm_as ix kl_2 = some q) : pg.2.2.2 16 ix = some q := h
theorem fo_16 {ix : Nat} {q : Nat × Nat × Nat} (h : xm_as ix kf_2 = some q) : (pg.1 16).2.2.1 ix = some q := h
theorem ko_16 {ix : Nat} {q : xm_V} (h : xm_as ix kc_2 = some q) : (pg.1 16).2.1 ix = some q := h
theorem so_16 {ix : Nat} {q : Nat} (h : xm_as ix ks_2 = some q) : (pg.1 16).2.2.2.2.1 ix = some q := h
theorem no_16 {ix : Nat} {q : Nat × List xm_F} (h : xm_as ix kn_2 = some q) : (pg.1 16).2.2.2.1 ix = some q := h
theorem xo_16 {ix q : Nat} (h : (ym_16).2.2.2.2.2 ix = q) : (pg.1 16).2.2.2.2.2 ix = q := h
theorem in_17 {pc : Nat} {i : Jvm.ClassFile.Instr × Nat} (h : xm_tb pc tb_17 = some i) : (pg.1 17).1 pc = some i := h
theorem nl_17 {a : Nat} (h : Nat.ble (a + 1) 1 = true) : a < pg.2.1 17 := Nat.le_of_ble_eq_true h
theorem kd_17 : pg.2.2.1 17 = 4 := rfl
theorem cl_17 {ix : Nat} {q : Nat × Nat × Nat × Nat} (h : xm_as ix kl_2 = some q) : pg.2.2.2 17 ix = some q := h
theorem fo_17 {ix : Nat} {q : Nat × Nat × Nat} (h : xm_as ix kf_2 = some q) : (pg.1 17).2.2.1 ix = some q := h
theorem ko_17 {ix : Nat} {q : xm_V} (h : xm_as ix kc_2 = some q) : (pg.1 17).2.1 ix = some q := h
theorem so_17 {ix : Nat} {q : Nat} (h : xm_as ix ks_2 = some q) : (pg.1 17).2.2.2.2.1 ix = some q := h
theorem no_17 {ix : Nat} {q : Nat × List xm_F} (h : xm_as ix kn_2 = some q) : (pg.1 17).2.2.2.1 ix = some q := h
theorem xo_17 {ix q : Nat} (h : (ym_17).2.2.2.2.2 ix = q) : (pg.1 17).2.2.2.2.2 ix = q := h
theorem in_18 {pc : Nat} {i : Jvm.ClassFile.Instr × Nat} (h : xm_tb pc tb_18 = some i) : (pg.1 18).1 pc = some i := h
theorem nl_18 {a : Nat} (h : Nat.ble (a + 1) 2 = true) : a < pg.2.1 18 := Nat.le_of_ble_eq_true h
theorem kd_18 : pg.2.2.1 18 = 1 := rfl
theorem cl_18 {ix : Nat} {q : Nat × Nat × Nat × Nat} (h : xm_as ix kl_0 = some q) : pg.2.2.2 18 ix = some q := h
theorem fo_18 {ix : Nat} {q : Nat × Nat × Nat} (h : xm_as ix kf_0 = some q) : (pg.1 18).2.2.1 ix = some q := h
theorem ko_18 {ix : Nat} {q : xm_V} (h : xm_as ix kc_0 = some q) : (pg.1 18).2.1 ix = some q := h
theorem so_18 {ix : Nat} {q : Nat} (h : xm_as ix ks_0 = some q) : (pg.1 18).2.2.2.2.1 ix = some q := h
theorem no_18 {ix : Nat} {q : Nat × List xm_F} (h : xm_as ix kn_0 = some q) : (pg.1 18).2.2.2.1 ix = some q := h
theorem xo_18 {ix q : Nat} (h : (ym_18).2.2.2.2.2 ix = q) : (pg.1 18).2.2.2.2.2 ix = q := h
theorem in_19 {pc : Nat} {i : Jvm.ClassFile.Instr × Nat} (h : xm_tb pc tb_19 = some i) : (pg.1 19).1 pc = some i := h
theorem nl_19 {a : Nat} (h : Nat.ble (a + 1) 7 = true) : a < pg.2.1 19 := Nat.le_of_ble_eq_true h
theorem kd_19 : pg.2.2.1 19 = 1 := rfl
theorem cl_19 {ix : Nat} {q : Nat × Nat × Nat × Nat} (h : xm_as ix kl_2 = some q) : pg.2.2.2 19 ix = some q := h
theorem fo_19 {ix : Nat} {q : Nat × Nat × Nat} (h : xm_as ix kf_2 = some q) : (pg.1 19).2.2.1 ix = some q := h
theorem ko_19 {ix : Nat} {q : xm_V} (h : xm_as ix kc_2 = some q) : (pg.1 19).2.1 ix = some q := h
theorem so_19 {ix : Nat} {q : Nat} (h : xm_as ix ks_2 = some q) : (pg.1 19).2.2.2.2.1 ix = some q := h
theorem no_19 {ix : Nat} {q : Nat × List xm_F} (h : xm_as ix kn_2 = some q) : (pg.1 19).2.2.2.1 ix = some q := h
theorem xo_19 {ix q : Nat} (h : (ym_19).2.2.2.2.2 ix = q) : (pg.1 19).2.2.2.2.2 ix = q := h
theorem in_20 {pc : Nat} {i : Jvm.ClassFile.Instr × Nat} (h : xm_tb pc tb_20 = some i) : (pg.1 20).1 pc = some i := h
theorem nl_20 {a : Nat} (h : Nat.ble (a + 1) 1 = true) : a < pg.2.1 20 := Nat.le_of_ble_eq_true h
theorem kd_20 : pg.2.2.1 20 = 1 := rfl
theorem cl_20 {ix : Nat} {q : Nat × Nat × Nat × Nat} (h : xm_as ix kl_0 = some q) : pg.2.2.2 20 ix = some q := h
theorem fo_20 {ix : Nat} {q : Nat × Nat × Nat} (h : xm_as ix kf_0 = some q) : (pg.1 20).2.2.1 ix = some q := h
theorem ko_20 {ix : Nat} {q : xm_V} (h : xm_as ix kc_0 = some q) : (pg.1 20).2.1 ix = some q := h
theorem so_20 {ix : Nat} {q : Nat} (h : xm_as ix ks_0 = some q) : (pg.1 20).2.2.2.2.1 ix = some q := h
theorem no_20 {ix : Nat} {q : Nat × List xm_F} (h : xm_as ix kn_0 = some q) : (pg.1 20).2.2.2.1 ix = some q := h
theorem xo_20 {ix q : Nat} (h : (ym_20).2.2.2.2.2 ix = q) : (pg.1 20).2.2.2.2.2 ix = q := h
theorem in_21 {pc : Nat} {i : Jvm.ClassFile.Instr × Nat} (h : xm_tb pc tb_21 = some i) : (pg.1 21).1 pc = some i := h
theorem nl_21 {a : Nat} (h : Nat.ble (a + 1) 8 = true) : a < pg.2.1 21 := Nat.le_of_ble_eq_true h
theorem kd_21 : pg.2.2.1 21 = 1 := rfl
theorem cl_21 {ix : Nat} {q : Nat × Nat × Nat × Nat} (h : xm_as ix kl_0 = some q) : pg.2.2.2 21 ix = some q := h
theorem fo_21 {ix : Nat} {q : Nat × Nat × Nat} (h : xm_as ix kf_0 = some q) : (pg.1 21).2.2.1 ix = some q := h
theorem ko_21 {ix : Nat} {q : xm_V} (h : xm_as ix kc_0 = some q) : (pg.1 21).2.1 ix = some q := h
theorem so_21 {ix : Nat} {q : Nat} (h : xm_as ix ks_0 = some q) : (pg.1 21).2.2.2.2.1 ix = some q := h
theorem no_21 {ix : Nat} {q : Nat × List xm_F} (h : xm_as ix kn_0 = some q) : (pg.1 21).2.2.2.1 ix = some q := h
theorem xo_21 {ix q : Nat} (h : (ym_21).2.2.2.2.2 ix = q) : (pg.1 21).2.2.2.2.2 ix = q := h
theorem in_22 {pc : Nat} {i : Jvm.ClassFile.Instr × Nat} (h : xm_tb pc tb_22 = some i) : (pg.1 22).1 pc = some i := h
theorem nl_22 {a : Nat} (h : Nat.ble (a + 1) 8 = true) : a < pg.2.1 22 := Nat.le_of_ble_eq_true h
theorem kd_22 : pg.2.2.1 22 = 0 := rfl
theorem cl_22 {ix : Nat} {q : Nat × Nat × Nat × Nat} (h : xm_as ix kl_7 = some q) : pg.2.2.2 22 ix = some q := h
theorem fo_22 {ix : Nat} {q : Nat × Nat × Nat} (h : xm_as ix kf_7 = some q) : (pg.1 22).2.2.1 ix = some q := h
theorem ko_22 {ix : Nat} {q : xm_V} (h : xm_as ix kc_7 = some q) : (pg.1 22).2.1 ix = some q := h
theorem so_22 {ix : Nat} {q : Nat} (h : xm_as ix ks_7 = some q) : (pg.1 22).2.2.2.2.1 ix = some q := h
theorem no_22 {ix : Nat} {q : Nat × List xm_F} (h : xm_as ix kn_7 = some q) : (pg.1 22).2.2.2.1 ix = some q := h
theorem xo_22 {ix q : Nat} (h : (ym_22).2.2.2.2.2 ix = q) : (pg.1 22).2.2.2.2.2 ix = q := h
theorem in_23 {pc : Nat} {i : Jvm.ClassFile.Instr × Nat} (h : xm_tb pc tb_23 = some i) : (pg.1 23).1 pc = some i := h
theorem nl_23 {a : Nat} (h : Nat.ble (a + 1) 3 = true) : a < pg.2.1 23 := Nat.le_of_ble_eq_true h
theorem kd_23 : pg.2.2.1 23 = 4 := rfl
theorem cl_23 {ix : Nat} {q : Nat × Nat × Nat × Nat} (h : xm_as ix kl_7 = some q) : pg.2.2.2 23 ix = some q := h
theorem fo_23 {ix : Nat} {q : Nat × Nat × Nat} (h : xm_as ix kf_7 = some q) : (pg.1 23).2.2.1 ix = some q := h
theorem ko_23 {ix : Nat} {q : xm_V} (h : xm_as ix kc_7 = some q) : (pg.1 23).2.1 ix = some q := h
theorem so_23 {ix : Nat} {q : Nat} (h : xm_as ix ks_7 = some q) : (pg.1 23).2.2.2.2.1 ix = some q := h
theorem no_23 {ix : Nat} {q : Nat × List xm_F} (h : xm_as ix kn_7 = some q) : (pg.1 23).2.2.2.1 ix = some q := h
theorem xo_23 {ix q : Nat} (h : (ym_23).2.2.2.2.2 ix = q) : (pg.1 23).2.2.2.2.2 ix = q := h
theorem in_24 {pc : Nat} {i : Jvm.ClassFile.Instr × Nat} (h : xm_tb pc tb_24 = some i) : (pg.1 24).1 pc = some i := h
theorem nl_24 {a : Nat} (h : Nat.ble (a + 1) 3 = true) : a < pg.2.1 24 := Nat.le_of_ble_eq_true h
theorem kd_24 : pg.2.2.1 24 = 4 := rfl
theorem cl_24 {ix : Nat} {q : Nat × Nat × Nat × Nat} (h : xm_as ix kl_2 = some q) : pg.2.2.2 24 ix = some q := h
theorem fo_24 {ix : Nat} {q : Nat × Nat × Nat} (h : xm_as ix kf_2 = some q) : (pg.1 24).2.2.1 ix = some q := h
theorem ko_24 {ix : Nat} {q : xm_V} (h : xm_as ix kc_2 = some q) : (pg.1 24).2.1 ix = some q := h
theorem so_24 {ix : Nat} {q : Nat} (h : xm_as ix ks_2 = some q) : (pg.1 24).2.2.2.2.1 ix = some q := h
theorem no_24 {ix : Nat} {q : Nat × List xm_F} (h : xm_as ix kn_2 = some q) : (pg.1 24).2.2.2.1 ix = some q := h
theorem xo_24 {ix q : Nat} (h : (ym_24).2.2.2.2.2 ix = q) : (pg.1 24).2.2.2.2.2 ix = q := h
theorem in_25 {pc : Nat} {i : Jvm.ClassFile.Instr × Nat} (h : xm_tb pc tb_25 = some i) : (pg.1 25).1 pc = some i := h
theorem nl_25 {a : Nat} (h : Nat.ble (a + 1) 4 = true) : a < pg.2.1 25 := Nat.le_of_ble_eq_true h
theorem kd_25 : pg.2.2.1 25 = 1 := rfl
theorem cl_25 {ix : Nat} {q : Nat × Nat × Nat × Nat} (h : xm_as ix kl_7 = some q) : pg.2.2.2 25 ix = some q := h
theorem fo_25 {ix : Nat} {q : Nat × Nat × Nat} (h : xm_as ix kf_7 = some q) : (pg.1 25).2.2.1 ix = some q := h
theorem ko_25 {ix : Nat} {q : xm_V} (h : xm_as ix kc_7 = some q) : (pg.1 25).2.1 ix = some q := h
theorem so_25 {ix : Nat} {q : Nat} (h : xm_as ix ks_7 = some q) : (pg.1 25).2.2.2.2.1 ix = some q := h
theorem no_25 {ix : Nat} {q : Nat × List xm_F} (h : xm_as ix kn_7 = some q) : (pg.1 25).2.2.2.1 ix = some q := h
theorem xo_25 {ix q : Nat} (h : (ym_25).2.2.2.2.2 ix = q) : (pg.1 25).2.2.2.2.2 ix = q := h
theorem in_26 {pc : Nat} {i : Jvm.ClassFile.Instr × Nat} (h : xm_tb pc tb_26 = some i) : (pg.1 26).1 pc = some i := h
theorem nl_26 {a : Nat} (h : Nat.ble (a + 1) 1 = true) : a < pg.2.1 26 := Nat.le_of_ble_eq_true h
theorem kd_26 : pg.2.2.1 26 = 1 := rfl
theorem cl_26 {ix : Nat} {q : Nat × Nat × Nat × Nat} (h : xm_as ix kl_7 = some q) : pg.2.2.2 26 ix = some q := h
theorem fo_26 {ix : Nat} {q : Nat × Nat × Nat} (h : xm_as ix kf_7 = some q) : (pg.1 26).2.2.1 ix = some q := h
theorem ko_26 {ix : Nat} {q : xm_V} (h : xm_as ix kc_7 = some q) : (pg.1 26).2.1 ix = some q := h
theorem so_26 {ix : Nat} {q : Nat} (h : xm_as ix ks_7 = some q) : (pg.1 26).2.2.2.2.1 ix = some q := h
theorem no_26 {ix : Nat} {q : Nat × List xm_F} (h : xm_as ix kn_7 = some q) : (pg.1 26).2.2.2.1 ix = some q := h
theorem xo_26 {ix q : Nat} (h : (ym_26).2.2.2.2.2 ix = q) : (pg.1 26).2.2.2.2.2 ix = q := h
theorem in_27 {pc : Nat} {i : Jvm.ClassFile.Instr × Nat} (h : xm_tb pc tb_27 = some i) : (pg.1 27).1 pc = some i := h
theorem nl_27 {a : Nat} (h : Nat.ble (a + 1) 4 = true) : a < pg.2.1 27 := Nat.le_of_ble_eq_true h
theorem kd_27 : pg.2.2.1 27 = 1 := rfl
theorem cl_27 {ix : Nat} {q : Nat × Nat × Nat × Nat} (h : xm_as ix kl_7 = some q) : pg.2.2.2 27 ix = some q := h
theorem fo_27 {ix : Nat} {q : Nat × Nat × Nat} (h : xm_as ix kf_7 = some q) : (pg.1 27).2.2.1 ix = some q := h
theorem ko_27 {ix : Nat} {q : xm_V} (h : xm_as ix kc_7 = some q) : (pg.1 27).2.1 ix = some q := h
theorem so_27 {ix : Nat} {q : Nat} (h : xm_as ix ks_7 = some q) : (pg.1 27).2.2.2.2.1 ix = some q := h
theorem no_27 {ix : Nat} {q : Nat × List xm_F} (h : xm_as ix kn_7 = some q) : (pg.1 27).2.2.2.1 ix = some q := h
theorem xo_27 {ix q : Nat} (h : (ym_27).2.2.2.2.2 ix = q) : (pg.1 27).2.2.2.2.2 ix = q := h
theorem in_28 {pc : Nat} {i : Jvm.ClassFile.Instr × Nat} (h : xm_tb pc tb_28 = some i) : (pg.1 28).1 pc = some i := h
theorem nl_28 {a : Nat} (h : Nat.ble (a + 1) 2 = true) : a < pg.2.1 28 := Nat.le_of_ble_eq_true h
theorem kd_28 : pg.2.2.1 28 = 1 := rfl
theorem cl_28 {ix : Nat} {q : Nat × Nat × Nat × Nat} (h : xm_as ix kl_7 = some q) : pg.2.2.2 28 ix = some q := h
theorem fo_28 {ix : Nat} {q : Nat × Nat × Nat} (h : xm_as ix kf_7 = some q) : (pg.1 28).2.2.1 ix = some q := h
theorem ko_28 {ix : Nat} {q : xm_V} (h : xm_as ix kc_7 = some q) : (pg.1 28).2.1 ix = some q := h
theorem so_28 {ix : Nat} {q : Nat} (h : xm_as ix ks_7 = some q) : (pg.1 28).2.2.2.2.1 ix = some q := h
theorem no_28 {ix : Nat} {q : Nat × List xm_F} (h : xm_as ix kn_7 = some q) : (pg.1 28).2.2.2.1 ix = some q := h
theorem xo_28 {ix q : Nat} (h : (ym_28).2.2.2.2.2 ix = q) : (pg.1 28).2.2.2.2.2 ix = q := h
theorem in_29 {pc : Nat} {i : Jvm.ClassFile.Instr × Nat} (h : xm_tb pc tb_29 = some i) : (pg.1 29).1 pc = some i := h
theorem nl_29 {a : Nat} (h : Nat.ble (a + 1) 5 = true) : a < pg.2.1 29 := Nat.le_of_ble_eq_true h
theorem kd_29 : pg.2.2.1 29 = 1 := rfl
theorem cl_29 {ix : Nat} {q : Nat × Nat × Nat × Nat} (h : xm_as ix kl_7 = some q) : pg.2.2.2 29 ix = some q := h
theorem fo_29 {ix : Nat} {q : Nat × Nat × Nat} (h : xm_as ix kf_7 = some q) : (pg.1 29).2.2.1 ix = some q := h
theorem ko_29 {ix : Nat} {q : xm_V} (h : xm_as ix kc_7 = some q) : (pg.1 29).2.1 ix = some q := h
theorem so_29 {ix : Nat} {q : Nat} (h : xm_as ix ks_7 = some q) : (pg.1 29).2.2.2.2.1 ix = some q := h
theorem no_29 {ix : Nat} {q : Nat × List xm_F} (h : xm_as ix kn_7 = some q) : (pg.1 29).2.2.2.1 ix = some q := h
theorem xo_29 {ix q : Nat} (h : (ym_29).2.2.2.2.2 ix = q) : (pg.1 29).2.2.2.2.2 ix = q := h
theorem in_30 {pc : Nat} {i : Jvm.ClassFile.Instr × Nat} (h : xm_tb pc tb_30 = some i) : (pg.1 30).1 pc = some i := h
theorem nl_30 {a : Nat} (h : Nat.ble (a + 1) 5 = true) : a < pg.2.1 30 := Nat.le_of_ble_eq_true h
theorem kd_30 : pg.2.2.1 30 = 1 := rfl
theorem cl_30 {ix : Nat} {q : Nat × Nat × Nat × Nat} (h : xm_as ix kl_7 = some q) : pg.2.2.2 30 ix = some q := h
theorem fo_30 {ix : Nat} {q : Nat × Nat × Nat} (h : xm_as ix kf_7 = some q) : (pg.1 30).2.2.1 ix = some q := h
theorem ko_30 {ix : Nat} {q : xm_V} (h : xm_as ix kc_7 = some q) : (pg.1 30).2.1 ix = some q := h
theorem so_30 {ix : Nat} {q : Nat} (h : xm_as ix ks_7 = some q) : (pg.1 30).2.2.2.2.1 ix = some q := h
theorem no_30 {ix : Nat} {q : Nat × List xm_F} (h : xm_as ix kn_7 = some q) : (pg.1 30).2.2.2.1 ix = some q := h
theorem xo_30 {ix q : Nat} (h : (ym_30).2.2.2.2.2 ix = q) : (pg.1 30).2.2.2.2.2 ix = q := h
theorem in_31 {pc : Nat} {i : Jvm.ClassFile.Instr × Nat} (h : xm_tb pc tb_31 = some i) : (pg.1 31).1 pc = some i := h
theorem nl_31 {a : Nat} (h : Nat.ble (a + 1) 3 = true) : a < pg.2.1 31 := Nat.le_of_ble_eq_true h
theorem kd_31 : pg.2.2.1 31 = 1 := rfl
theorem cl_31 {ix : Nat} {q : Nat × Nat × Nat × Nat} (h : xm_as ix kl_0 = some q) : pg.2.2.2 31 ix = some q := h
theorem fo_31 {ix : Nat} {q : Nat × Nat × Nat} (h : xm_as ix kf_0 = some q) : (pg.1 31).2.2.1 ix = some q := h
theorem ko_31 {ix : Nat} {q : xm_V} (h : xm_as ix kc_0 = some q) : (pg.1 31).2.1 ix = some q := h
theorem so_31 {ix : Nat} {q : Nat} (h : xm_as ix ks_0 = some q) : (pg.1 31).2.2.2.2.1 ix = some q := h
theorem no_31 {ix : Nat} {q : Nat × List xm_F} (h : xm_as ix kn_0 = some q) : (pg.1 31).2.2.2.1 ix = some q := h
theorem xo_31 {ix q : Nat} (h : (ym_31).2.2.2.2.2 ix = q) : (pg.1 31).2.2.2.2.2 ix = q := h
theorem in_32 {pc : Nat} {i : Jvm.ClassFile.Instr × Nat} (h : xm_tb pc tb_32 = some i) : (pg.1 32).1 pc = some i := h
theorem nl_32 {a : Nat} (h : Nat.ble (a + 1) 5 = true) : a < pg.2.1 32 := Nat.le_of_ble_eq_true h
theorem kd_32 : pg.2.2.1 32 = 4 := rfl
theorem cl_32 {ix : Nat} {q : Nat × Nat × Nat × Nat} (h : xm_as ix kl_5 = some q) : pg.2.2.2 32 ix = some q := h
theorem fo_32 {ix : Nat} {q : Nat × Nat × Nat} (h : xm_as ix kf_5 = some q) : (pg.1 32).2.2.1 ix = some q := h
theorem ko_32 {ix : Nat} {q : xm_V} (h : xm_as ix kc_5 = some q) : (pg.1 32).2.1 ix = some q := h
theorem so_32 {ix : Nat} {q : Nat} (h : xm_as ix ks_5 = some q) : (pg.1 32).2.2.2.2.1 ix = some q := h
theorem no_32 {ix : Nat} {q : Nat × List xm_F} (h : xm_as ix kn_5 = some q) : (pg.1 32).2.2.2.1 ix = some q := h
theorem xo_32 {ix q : Nat} (h : (ym_32).2.2.2.2.2 ix = q) : (pg.1 32).2.2.2.2.2 ix = q := h
theorem in_33 {pc : Nat} {i : Jvm.ClassFile.Instr × Nat} (h : xm_tb pc tb_33 = some i) : (pg.1 33).1 pc = some i := h
theorem nl_33 {a : Nat} (h : Nat.ble (a + 1) 2 = true) : a < pg.2.1 33 := Nat.le_of_ble_eq_true h
theorem kd_33 : pg.2.2.1 33 = 1 := rfl
theorem cl_33 {ix : Nat} {q : Nat × Nat × Nat × Nat} (h : xm_as ix kl_5 = some q) : pg.2.2.2 33 ix = some q := h
theorem fo_33 {ix : Nat} {q : Nat × Nat × Nat} (h : xm_as ix kf_5 = some q) : (pg.1 33).2.2.1 ix = some q := h
theorem ko_33 {ix : Nat} {q : xm_V} (h : xm_as ix kc_5 = some q) : (pg.1 33).2.1 ix = some q := h
theorem so_33 {ix : Nat} {q : Nat} (h : xm_as ix ks_5 = some q) : (pg.1 33).2.2.2.2.1 ix = some q := h
theorem no_33 {ix : Nat} {q : Nat × List xm_F} (h : xm_as ix kn_5 = some q) : (pg.1 33).2.2.2.1 ix = some q := h
theorem xo_33 {ix q : Nat} (h : (ym_33).2.2.2.2.2 ix = q) : (pg.1 33).2.2.2.2.2 ix = q := h
theorem in_34 {pc : Nat} {i : Jvm.ClassFile.Instr × Nat} (h : xm_tb pc tb_34 = some i) : (pg.1 34).1 pc = some i := h
theorem nl_34 {a : Nat} (h : Nat.ble (a + 1) 6 = true) : a < pg.2.1 34 := Nat.le_of_ble_eq_true h
theorem kd_34 : pg.2.2.1 34 = 0 := rfl
theorem cl_34 {ix : Nat} {q : Nat × Nat × Nat × Nat} (h : xm_as ix kl_5 = some q) : pg.2.2.2 34 ix = some q := h
theorem fo_34 {ix : Nat} {q : Nat × Nat × Nat} (h : xm_as ix kf_5 = some q) : (pg.1 34).2.2.1 ix = some q := h
theorem ko_34 {ix : Nat} {q : xm_V} (h : xm_as ix kc_5 = some q) : (pg.1 34).2.1 ix = some q := h
theorem so_34 {ix : Nat} {q : Nat} (h : xm_as ix ks_5 = some q) : (pg.1 34).2.2.2.2.1 ix = some q := h
theorem no_34 {ix : Nat} {q : Nat × List xm_F} (h : xm_as ix kn_5 = some q) : (pg.1 34).2.2.2.1 ix = some q := h
theorem xo_34 {ix q : Nat} (h : (ym_34).2.2.2.2.2 ix = q) : (pg.1 34).2.2.2.2.2 ix = q := h
theorem in_35 {pc : Nat} {i : Jvm.ClassFile.Instr × Nat} (h : xm_tb pc tb_35 = some i) : (pg.1 35).1 pc = some i := h
theorem nl_35 {a : Nat} (h : Nat.ble (a + 1) 1 = true) : a < pg.2.1 35 := Nat.le_of_ble_eq_true h
theorem kd_35 : pg.2.2.1 35 = 0 := rfl
theorem cl_35 {ix : Nat} {q : Nat × Nat × Nat × Nat} (h : xm_as ix kl_4 = some q) : pg.2.2.2 35 ix = some q := h
theorem fo_35 {ix : Nat} {q : Nat × Nat × Nat} (h : xm_as ix kf_4 = some q) : (pg.1 35).2.2.1 ix = some q := h
theorem ko_35 {ix : Nat} {q : xm_V} (h : xm_as ix kc_4 = some q) : (pg.1 35).2.1 ix = some q := h
theorem so_35 {ix : Nat} {q : Nat} (h : xm_as ix ks_4 = some q) : (pg.1 35).2.2.2.2.1 ix = some q := h
theorem no_35 {ix : Nat} {q : Nat × List xm_F} (h : xm_as ix kn_4 = some q) : (pg.1 35).2.2.2.1 ix = some q := h
theorem xo_35 {ix q : Nat} (h : (ym_35).2.2.2.2.2 ix = q) : (pg.1 35).2.2.2.2.2 ix = q := h
theorem in_36 {pc : Nat} {i : Jvm.ClassFile.Instr × Nat} (h : xm_tb pc tb_36 = some i) : (pg.1 36).1 pc = some i := h
theorem nl_36 {a : Nat} (h : Nat.ble (a + 1) 6 = true) : a < pg.2.1 36 := Nat.le_of_ble_eq_true h
theorem kd_36 : pg.2.2.1 36 = 0 := rfl
theorem cl_36 {ix : Nat} {q : Nat × Nat × Nat × Nat} (h : xm_as ix kl_4 = some q) : pg.2.2.2 36 ix = some q := h
theorem fo_36 {ix : Nat} {q : Nat × Nat × Nat} (h : xm_as ix kf_4 = some q) : (pg.1 36).2.2.1 ix = some q := h
theorem ko_36 {ix : Nat} {q : xm_V} (h : xm_as ix kc_4 = some q) : (pg.1 36).2.1 ix = some q := h
theorem so_36 {ix : Nat} {q : Nat} (h : xm_as ix ks_4 = some q) : (pg.1 36).2.2.2.2.1 ix = some q := h
theorem no_36 {ix : Nat} {q : Nat × List xm_F} (h : xm_as ix kn_4 = some q) : (pg.1 36).2.2.2.1 ix = some q := h
theorem xo_36 {ix q : Nat} (h : (ym_36).2.2.2.2.2 ix = q) : (pg.1 36).2.2.2.2.2 ix = q := h
theorem in_37 {pc : Nat} {i : Jvm.ClassFile.Instr × Nat} (h : xm_tb pc tb_37 = some i) : (pg.1 37).1 pc = some i := h
theorem nl_37 {a : Nat} (h : Nat.ble (a + 1) 6 = true) : a < pg.2.1 37 := Nat.le_of_ble_eq_true h
theorem kd_37 : pg.2.2.1 37 = 0 := rfl
theorem cl_37 {ix : Nat} {q : Nat × Nat × Nat × Nat} (h : xm_as ix kl_5 = some q) : pg.2.2.2 37 ix = some q := h
theorem fo_37 {ix : Nat} {q : Nat × Nat × Nat} (h : xm_as ix kf_5 = some q) : (pg.1 37).2.2.1 ix = some q := h
theorem ko_37 {ix : Nat} {q : xm_V} (h : xm_as ix kc_5 = some q) : (pg.1 37).2.1 ix = some q := h
theorem so_37 {ix : Nat} {q : Nat} (h : xm_as ix ks_5 = some q) : (pg.1 37).2.2.2.2.1 ix = some q := h
theorem no_37 {ix : Nat} {q : Nat × List xm_F} (h : xm_as ix kn_5 = some q) : (pg.1 37).2.2.2.1 ix = some q := h
theorem xo_37 {ix q : Nat} (h : (ym_37).2.2.2.2.2 ix = q) : (pg.1 37).2.2.2.2.2 ix = q := h
theorem in_38 {pc : Nat} {i : Jvm.ClassFile.Instr × Nat} (h : xm_tb pc tb_38 = some i) : (pg.1 38).1 pc = some i := h
theorem nl_38 {a : Nat} (h : Nat.ble (a + 1) 8 = true) : a < pg.2.1 38 := Nat.le_of_ble_eq_true h
theorem kd_38 : pg.2.2.1 38 = 0 := rfl
theorem cl_38 {ix : Nat} {q : Nat × Nat × Nat × Nat} (h : xm_as ix kl_5 = some q) : pg.2.2.2 38 ix = some q := h
theorem fo_38 {ix : Nat} {q : Nat × Nat × Nat} (h : xm_as ix kf_5 = some q) : (pg.1 38).2.2.1 ix = some q := h
theorem ko_38 {ix : Nat} {q : xm_V} (h : xm_as ix kc_5 = some q) : (pg.1 38).2.1 ix = some q := h
theorem so_38 {ix : Nat} {q : Nat} (h : xm_as ix ks_5 = some q) : (pg.1 38).2.2.2.2.1 ix = some q := h
theorem no_38 {ix : Nat} {q : Nat × List xm_F} (h : xm_as ix kn_5 = some q) : (pg.1 38).2.2.2.1 ix = some q := h
theorem xo_38 {ix q : Nat} (h : (ym_38).2.2.2.2.2 ix = q) : (pg.1 38).2.2.2.2.2 ix = q := h
theorem in_39 {pc : Nat} {i : Jvm.ClassFile.Instr × Nat} (h : xm_tb pc tb_39 = some i) : (pg.1 39).1 pc = some i := h
theorem nl_39 {a : Nat} (h : Nat.ble (a + 1) 1 = true) : a < pg.2.1 39 := Nat.le_of_ble_eq_true h
theorem kd_39 : pg.2.2.1 39 = 2 := rfl
theorem cl_39 {ix : Nat} {q : Nat × Nat × Nat × Nat} (h : xm_as ix kl_4 = some q) : pg.2.2.2 39 ix = some q := h
theorem fo_39 {ix : Nat} {q : Nat × Nat × Nat} (h : xm_as ix kf_4 = some q) : (pg.1 39).2.2.1 ix = some q := h
theorem ko_39 {ix : Nat} {q : xm_V} (h : xm_as ix kc_4 = some q) : (pg.1 39).2.1 ix = some q := h
theorem so_39 {ix : Nat} {q : Nat} (h : xm_as ix ks_4 = some q) : (pg.1 39).2.2.2.2.1 ix = some q := h
theorem no_39 {ix : Nat} {q : Nat × List xm_F} (h : xm_as ix kn_4 = some q) : (pg.1 39).2.2.2.1 ix = some q := h
theorem xo_39 {ix q : Nat} (h : (ym_39).2.2.2.2.2 ix = q) : (pg.1 39).2.2.2.2.2 ix = q := h
theorem in_40 {pc : Nat} {i : Jvm.ClassFile.Instr × Nat} (h : xm_tb pc tb_40 = some i) : (pg.1 40).1 pc = some i := h
theorem nl_40 {a : Nat} (h : Nat.ble (a + 1) 1 = true) : a < pg.2.1 40 := Nat.le_of_ble_eq_true h
theorem kd_40 : pg.2.2.1 40 = 2 := rfl
theorem cl_40 {ix : Nat} {q : Nat × Nat × Nat × Nat} (h : xm_as ix kl_4 = some q) : pg.2.2.2 40 ix = some q := h
theorem fo_40 {ix : Nat} {q : Nat × Nat × Nat} (h : xm_as ix kf_4 = some q) : (pg.1 40).2.2.1 ix = some q := h
theorem ko_40 {ix : Nat} {q : xm_V} (h : xm_as ix kc_4 = some q) : (pg.1 40).2.1 ix = some q := h
theorem so_40 {ix : Nat} {q : Nat} (h : xm_as ix ks_4 = some q) : (pg.1 40).2.2.2.2.1 ix = some q := h
theorem no_40 {ix : Nat} {q : Nat × List xm_F} (h : xm_as ix kn_4 = some q) : (pg.1 40).2.2.2.1 ix = some q := h
theorem xo_40 {ix q : Nat} (h : (ym_40).2.2.2.2.2 ix = q) : (pg.1 40).2.2.2.2.2 ix = q := h
theorem in_41 {pc : Nat} {i : Jvm.ClassFile.Instr × Nat} (h : xm_tb pc tb_41 = some i) : (pg.1 41).1 pc = some i := h
theorem nl_41 {a : Nat} (h : Nat.ble (a + 1) 2 = true) : a < pg.2.1 41 := Nat.le_of_ble_eq_true h
theorem kd_41 : pg.2.2.1 41 = 0 := rfl
theorem cl_41 {ix : Nat} {q : Nat × Nat × Nat × Nat} (h : xm_as ix kl_5 = some q) : pg.2.2.2 41 ix = some q := h
theorem fo_41 {ix : Nat} {q : Nat × Nat × Nat} (h : xm_as ix kf_5 = some q) : (pg.1 41).2.2.1 ix = some q := h
theorem ko_41 {ix : Nat} {q : xm_V} (h : xm_as ix kc_5 = some q) : (pg.1 41).2.1 ix = some q := h
theorem so_41 {ix : Nat} {q : Nat} (h : xm_as ix ks_5 = some q) : (pg.1 41).2.2.2.2.1 ix = some q := h
theorem no_41 {ix : Nat} {q : Nat × List xm_F} (h : xm_as ix kn_5 = some q) : (pg.1 41).2.2.2.1 ix = some q := h
theorem xo_41 {ix q : Nat} (h : (ym_41).2.2.2.2.2 ix = q) : (pg.1 41).2.2.2.2.2 ix = q := h
theorem in_42 {pc : Nat} {i : Jvm.ClassFile.Instr × Nat} (h : xm_tb pc tb_42 = some i) : (pg.1 42).1 pc = some i := h
theorem nl_42 {a : Nat} (h : Nat.ble (a + 1) 3 = true) : a < pg.2.1 42 := Nat.le_of_ble_eq_true h
theorem kd_42 : pg.2.2.1 42 = 3 := rfl
theorem cl_42 {ix : Nat} {q : Nat × Nat × Nat × Nat} (h : xm_as ix kl_11 = some q) : pg.2.2.2 42 ix = some q := h
theorem fo_42 {ix : Nat} {q : Nat × Nat × Nat} (h : xm_as ix kf_11 = some q) : (pg.1 42).2.2.1 ix = some q := h
theorem ko_42 {ix : Nat} {q : xm_V} (h : xm_as ix kc_11 = some q) : (pg.1 42).2.1 ix = some q := h
theorem so_42 {ix : Nat} {q : Nat} (h : xm_as ix ks_11 = some q) : (pg.1 42).2.2.2.2.1 ix = some q := h
theorem no_42 {ix : Nat} {q : Nat × List xm_F} (h : xm_as ix kn_11 = some q) : (pg.1 42).2.2.2.1 ix = some q := h
theorem xo_42 {ix q : Nat} (h : (ym_42).2.2.2.2.2 ix = q) : (pg.1 42).2.2.2.2.2 ix = q := h
theorem in_43 {pc : Nat} {i : Jvm.ClassFile.Instr × Nat} (h : xm_tb pc tb_43 = some i) : (pg.1 43).1 pc = some i := h
theorem nl_43 {a : Nat} (h : Nat.ble (a + 1) 2 = true) : a < pg.2.1 43 := Nat.le_of_ble_eq_true h
theorem kd_43 : pg.2.2.1 43 = 1 := rfl
theorem cl_43 {ix : Nat} {q : Nat × Nat × Nat × Nat} (h : xm_as ix kl_10 = some q) : pg.2.2.2 43 ix = some q := h
theorem fo_43 {ix : Nat} {q : Nat × Nat × Nat} (h : xm_as ix kf_10 = some q) : (pg.1 43).2.2.1 ix = some q := h
theorem ko_43 {ix : Nat} {q : xm_V} (h : xm_as ix kc_10 = some q) : (pg.1 43).2.1 ix = some q := h
theorem so_43 {ix : Nat} {q : Nat} (h : xm_as ix ks_10 = some q) : (pg.1 43).2.2.2.2.1 ix = some q := h
theorem no_43 {ix : Nat} {q : Nat × List xm_F} (h : xm_as ix kn_10 = some q) : (pg.1 43).2.2.2.1 ix = some q := h
theorem xo_43 {ix q : Nat} (h : (ym_43).2.2.2.2.2 ix = q) : (pg.1 43).2.2.2.2.2 ix = q := h
theorem in_44 {pc : Nat} {i : Jvm.ClassFile.Instr × Nat} (h : xm_tb pc tb_44 = some i) : (pg.1 44).1 pc = some i := h
theorem nl_44 {a : Nat} (h : Nat.ble (a + 1) 3 = true) : a < pg.2.1 44 := Nat.le_of_ble_eq_true h
theorem kd_44 : pg.2.2.1 44 = 1 := rfl
theorem cl_44 {ix : Nat} {q : Nat × Nat × Nat × Nat} (h : xm_as ix kl_5 = some q) : pg.2.2.2 44 ix = some q := h
theorem fo_44 {ix : Nat} {q : Nat × Nat × Nat} (h : xm_as ix kf_5 = some q) : (pg.1 44).2.2.1 ix = some q := h
theorem ko_44 {ix : Nat} {q : xm_V} (h : xm_as ix kc_5 = some q) : (pg.1 44).2.1 ix = some q := h
theorem so_44 {ix : Nat} {q : Nat} (h : xm_as ix ks_5 = some q) : (pg.1 44).2.2.2.2.1 ix = some q := h
theorem no_44 {ix : Nat} {q : Nat × List xm_F} (h : xm_as ix kn_5 = some q) : (pg.1 44).2.2.2.1 ix = some q := h
theorem xo_44 {ix q : Nat} (h : (ym_44).2.2.2.2.2 ix = q) : (pg.1 44).2.2.2.2.2 ix = q := h
theorem in_45 {pc : Nat} {i : Jvm.ClassFile.Instr × Nat} (h : xm_tb pc tb_45 = some i) : (pg.1 45).1 pc = some i := h
theorem nl_45 {a : Nat} (h : Nat.ble (a + 1) 2 = true) : a < pg.2.1 45 := Nat.le_of_ble_eq_true h
theorem kd_45 : pg.2.2.1 45 = 1 := rfl
theorem cl_45 {ix : Nat} {q : Nat × Nat × Nat × Nat} (h : xm_as ix kl_0 = some q) : pg.2.2.2 45 ix = some q := h
theorem fo_45 {ix : Nat} {q : Nat × Nat × Nat} (h : xm_as ix kf_0 = some q) : (pg.1 45).2.2.1 ix = some q := h
theorem ko_45 {ix : Nat} {q : xm_V} (h : xm_as ix kc_0 = some q) : (pg.1 45).2.1 ix = some q := h
theorem so_45 {ix : Nat} {q : Nat} (h : xm_as ix ks_0 = some q) : (pg.1 45).2.2.2.2.1 ix = some q := h
theorem no_45 {ix : Nat} {q : Nat × List xm_F} (h : xm_as ix kn_0 = some q) : (pg.1 45).2.2.2.1 ix = some q := h
theorem xo_45 {ix q : Nat} (h : (ym_45).2.2.2.2.2 ix = q) : (pg.1 45).2.2.2.2.2 ix = q := h
theorem in_46 {pc : Nat} {i : Jvm.ClassFile.Instr × Nat} (h : xm_tb pc tb_46 = some i) : (pg.1 46).1 pc = some i := h
theorem nl_46 {a : Nat} (h : Nat.ble (a + 1) 4 = true) : a < pg.2.1 46 := Nat.le_of_ble_eq_true h
theorem kd_46 : pg.2.2.1 46 = 4 := rfl
theorem cl_46 {ix : Nat} {q : Nat × Nat × Nat × Nat} (h : xm_as ix kl_1 = some q) : pg.2.2.2 46 ix = some q := h
theorem fo_46 {ix : Nat} {q : Nat × Nat × Nat} (h : xm_as ix kf_1 = some q) : (pg.1 46).2.2.1 ix = some q := h
theorem ko_46 {ix : Nat} {q : xm_V} (h : xm_as ix kc_1 = some q) : (pg.1 46).2.1 ix = some q := h
theorem so_46 {ix : Nat} {q : Nat} (h : xm_as ix ks_1 = some q) : (pg.1 46).2.2.2.2.1 ix = some q := h
theorem no_46 {ix : Nat} {q : Nat × List xm_F} (h : xm_as ix kn_1 = some q) : (pg.1 46).2.2.2.1 ix = some q := h
theorem xo_46 {ix q : Nat} (h : (ym_46).2.2.2.2.2 ix = q) : (pg.1 46).2.2.2.2.2 ix = q := h
theorem in_47 {pc : Nat} {i : Jvm.ClassFile.Instr × Nat} (h : xm_tb pc tb_47 = some i) : (pg.1 47).1 pc = some i := h
theorem nl_47 {a : Nat} (h : Nat.ble (a + 1) 3 = true) : a < pg.2.1 47 := Nat.le_of_ble_eq_true h
theorem kd_47 : pg.2.2.1 47 = 0 := rfl
theorem cl_47 {ix : Nat} {q : Nat × Nat × Nat × Nat} (h : xm_as ix kl_1 = some q) : pg.2.2.2 47 ix = some q := h
theorem fo_47 {ix : Nat} {q : Nat × Nat × Nat} (h : xm_as ix kf_1 = some q) : (pg.1 47).2.2.1 ix = some q := h
theorem ko_47 {ix : Nat} {q : xm_V} (h : xm_as ix kc_1 = some q) : (pg.1 47).2.1 ix = some q := h
theorem so_47 {ix : Nat} {q : Nat} (h : xm_as ix ks_1 = some q) : (pg.1 47).2.2.2.2.1 ix = some q := h
theorem no_47 {ix : Nat} {q : Nat × List xm_F} (h : xm_as ix kn_1 = some q) : (pg.1 47).2.2.2.1 ix = some q := h
theorem xo_47 {ix q : Nat} (h : (ym_47).2.2.2.2.2 ix = q) : (pg.1 47).2.2.2.2.2 ix = q := h
theorem in_48 {pc : Nat} {i : Jvm.ClassFile.Instr × Nat} (h : xm_tb pc tb_48 = some i) : (pg.1 48).1 pc = some i := h
theorem nl_48 {a : Nat} (h : Nat.ble (a + 1) 10 = true) : a < pg.2.1 48 := Nat.le_of_ble_eq_true h
theorem kd_48 : pg.2.2.1 48 = 4 := rfl
theorem cl_48 {ix : Nat} {q : Nat × Nat × Nat × Nat} (h : xm_as ix kl_1 = some q) : pg.2.2.2 48 ix = some q := h
theorem fo_48 {ix : Nat} {q : Nat × Nat × Nat} (h : xm_as ix kf_1 = some q) : (pg.1 48).2.2.1 ix = some q := h
theorem ko_48 {ix : Nat} {q : xm_V} (h : xm_as ix kc_1 = some q) : (pg.1 48).2.1 ix = some q := h
theorem so_48 {ix : Nat} {q : Nat} (h : xm_as ix ks_1 = some q) : (pg.1 48).2.2.2.2.1 ix = some q := h
theorem no_48 {ix : Nat} {q : Nat × List xm_F} (h : xm_as ix kn_1 = some q) : (pg.1 48).2.2.2.1 ix = some q := h
theorem xo_48 {ix q : Nat} (h : (ym_48).2.2.2.2.2 ix = q) : (pg.1 48).2.2.2.2.2 ix = q := h
theorem in_49 {pc : Nat} {i : Jvm.ClassFile.Instr × Nat} (h : xm_tb pc tb_49 = some i) : (pg.1 49).1 pc = some i := h
theorem nl_49 {a : Nat} (h : Nat.ble (a + 1) 7 = true) : a < pg.2.1 49 := Nat.le_of_ble_eq_true h
theorem kd_49 : pg.2.2.1 49 = 3 := rfl
theorem cl_49 {ix : Nat} {q : Nat × Nat × Nat × Nat} (h : xm_as ix kl_5 = some q) : pg.2.2.2 49 ix = some q := h
theorem fo_49 {ix : Nat} {q : Nat × Nat × Nat} (h : xm_as ix kf_5 = some q) : (pg.1 49).2.2.1 ix = some q := h
theorem ko_49 {ix : Nat} {q : xm_V} (h : xm_as ix kc_5 = some q) : (pg.1 49).2.1 ix = some q := h
theorem so_49 {ix : Nat} {q : Nat} (h : xm_as ix ks_5 = some q) : (pg.1 49).2.2.2.2.1 ix = some q := h
theorem no_49 {ix : Nat} {q : Nat × List xm_F} (h : xm_as ix kn_5 = some q) : (pg.1 49).2.2.2.1 ix = some q := h
theorem xo_49 {ix q : Nat} (h : (ym_49).2.2.2.2.2 ix = q) : (pg.1 49).2.2.2.2.2 ix = q := h
theorem in_50 {pc : Nat} {i : Jvm.ClassFile.Instr × Nat} (h : xm_tb pc tb_50 = some i) : (pg.1 50).1 pc = some i := h
theorem nl_50 {a : Nat} (h : Nat.ble (a + 1) 2 = true) : a < pg.2.1 50 := Nat.le_of_ble_eq_true h
theorem kd_50 : pg.2.2.1 50 = 1 := rfl
theorem cl_50 {ix : Nat} {q : Nat × Nat × Nat × Nat} (h : xm_as ix kl_4 = some q) : pg.2.2.2 50 ix = some q := h
theorem fo_50 {ix : Nat} {q : Nat × Nat × Nat} (h : xm_as ix kf_4 = some q) : (pg.1 50).2.2.1 ix = some q := h
theorem ko_50 {ix : Nat} {q : xm_V} (h : xm_as ix kc_4 = some q) : (pg.1 50).2.1 ix = some q := h
theorem so_50 {ix : Nat} {q : Nat} (h : xm_as ix ks_4 = some q) : (pg.1 50).2.2.2.2.1 ix = some q := h
theorem no_50 {ix : Nat} {q : Nat × List xm_F} (h : xm_as ix kn_4 = some q) : (pg.1 50).2.2.2.1 ix = some q := h
theorem xo_50 {ix q : Nat} (h : (ym_50).2.2.2.2.2 ix = q) : (pg.1 50).2.2.2.2.2 ix = q := h
theorem in_51 {pc : Nat} {i : Jvm.ClassFile.Instr × Nat} (h : xm_tb pc tb_51 = some i) : (pg.1 51).1 pc = some i := h
theorem nl_51 {a : Nat} (h : Nat.ble (a + 1) 4 = true) : a < pg.2.1 51 := Nat.le_of_ble_eq_true h
theorem kd_51 : pg.2.2.1 51 = 1 := rfl
theorem cl_51 {ix : Nat} {q : Nat × Nat × Nat × Nat} (h : xm_as ix kl_1 = some q) : pg.2.2.2 51 ix = some q := h
theorem fo_51 {ix : Nat} {q : Nat × Nat × Nat} (h : xm_as ix kf_1 = some q) : (pg.1 51).2.2.1 ix = some q := h
theorem ko_51 {ix : Nat} {q : xm_V} (h : xm_as ix kc_1 = some q) : (pg.1 51).2.1 ix = some q := h
theorem so_51 {ix : Nat} {q : Nat} (h : xm_as ix ks_1 = some q) : (pg.1 51).2.2.2.2.1 ix = some q := h
theorem no_51 {ix : Nat} {q : Nat × List xm_F} (h : xm_as ix kn_1 = some q) : (pg.1 51).2.2.2.1 ix = some q := h
theorem xo_51 {ix q : Nat} (h : (ym_51).2.2.2.2.2 ix = q) : (pg.1 51).2.2.2.2.2 ix = q := h
theorem in_52 {pc : Nat} {i : Jvm.ClassFile.Instr × Nat} (h : xm_tb pc tb_52 = some i) : (pg.1 52).1 pc = some i := h
theorem nl_52 {a : Nat} (h : Nat.ble (a + 1) 2 = true) : a < pg.2.1 52 := Nat.le_of_ble_eq_true h
theorem kd_52 : pg.2.2.1 52 = 1 := rfl
theorem cl_52 {ix : Nat} {q : Nat × Nat × Nat × Nat} (h : xm_as ix kl_4 = some q) : pg.2.2.2 52 ix = some q := h
theorem fo_52 {ix : Nat} {q : Nat × Nat × Nat} (h : xm_as ix kf_4 = some q) : (pg.1 52).2.2.1 ix = some q := h
theorem ko_52 {ix : Nat} {q : xm_V} (h : xm_as ix kc_4 = some q) : (pg.1 52).2.1 ix = some q := h
theorem so_52 {ix : Nat} {q : Nat} (h : xm_as ix ks_4 = some q) : (pg.1 52).2.2.2.2.1 ix = some q := h
theorem no_52 {ix : Nat} {q : Nat × List xm_F} (h : xm_as ix kn_4 = some q) : (pg.1 52).2.2.2.1 ix = some q := h
theorem xo_52 {ix q : Nat} (h : (ym_52).2.2.2.2.2 ix = q) : (pg.1 52).2.2.2.2.2 ix = q := h
theorem in_53 {pc : Nat} {i : Jvm.ClassFile.Instr × Nat} (h : xm_tb pc tb_53 = some i) : (pg.1 53).1 pc = some i := h
theorem nl_53 {a : Nat} (h : Nat.ble (a + 1) 4 = true) : a < pg.2.1 53 := Nat.le_of_ble_eq_true h
theorem kd_53 : pg.2.2.1 53 = 1 := rfl
theorem cl_53 {ix : Nat} {q : Nat × Nat × Nat × Nat} (h : xm_as ix kl_1 = some q) : pg.2.2.2 53 ix = some q := h
theorem fo_53 {ix : Nat} {q : Nat × Nat × Nat} (h : xm_as ix kf_1 = some q) : (pg.1 53).2.2.1 ix = some q := h
theorem ko_53 {ix : Nat} {q : xm_V} (h : xm_as ix kc_1 = some q) : (pg.1 53).2.1 ix = some q := h
theorem so_53 {ix : Nat} {q : Nat} (h : xm_as ix ks_1 = some q) : (pg.1 53).2.2.2.2.1 ix = some q := h
theorem no_53 {ix : Nat} {q : Nat × List xm_F} (h : xm_as ix kn_1 = some q) : (pg.1 53).2.2.2.1 ix = some q := h
theorem xo_53 {ix q : Nat} (h : (ym_53).2.2.2.2.2 ix = q) : (pg.1 53).2.2.2.2.2 ix = q := h
theorem in_54 {pc : Nat} {i : Jvm.ClassFile.Instr × Nat} (h : xm_tb pc tb_54 = some i) : (pg.1 54).1 pc = some i := h
theorem nl_54 {a : Nat} (h : Nat.ble (a + 1) 4 = true) : a < pg.2.1 54 := Nat.le_of_ble_eq_true h
theorem kd_54 : pg.2.2.1 54 = 1 := rfl
theorem cl_54 {ix : Nat} {q : Nat × Nat × Nat × Nat} (h : xm_as ix kl_0 = some q) : pg.2.2.2 54 ix = some q := h
theorem fo_54 {ix : Nat} {q : Nat × Nat × Nat} (h : xm_as ix kf_0 = some q) : (pg.1 54).2.2.1 ix = some q := h
theorem ko_54 {ix : Nat} {q : xm_V} (h : xm_as ix kc_0 = some q) : (pg.1 54).2.1 ix = some q := h
theorem so_54 {ix : Nat} {q : Nat} (h : xm_as ix ks_0 = some q) : (pg.1 54).2.2.2.2.1 ix = some q := h
theorem no_54 {ix : Nat} {q : Nat × List xm_F} (h : xm_as ix kn_0 = some q) : (pg.1 54).2.2.2.1 ix = some q := h
theorem xo_54 {ix q : Nat} (h : (ym_54).2.2.2.2.2 ix = q) : (pg.1 54).2.2.2.2.2 ix = q := h
theorem in_55 {pc : Nat} {i : Jvm.ClassFile.Instr × Nat} (h : xm_tb pc tb_55 = some i) : (pg.1 55).1 pc = some i := h
theorem nl_55 {a : Nat} (h : Nat.ble (a + 1) 1 = true) : a < pg.2.1 55 := Nat.le_of_ble_eq_true h
theorem kd_55 : pg.2.2.1 55 = 0 := rfl
theorem cl_55 {ix : Nat} {q : Nat × Nat × Nat × Nat} (h : xm_as ix kl_6 = some q) : pg.2.2.2 55 ix = some q := h
theorem fo_55 {ix : Nat} {q : Nat × Nat × Nat} (h : xm_as ix kf_6 = some q) : (pg.1 55).2.2.1 ix = some q := h
theorem ko_55 {ix : Nat} {q : xm_V} (h : xm_as ix kc_6 = some q) : (pg.1 55).2.1 ix = some q := h
theorem so_55 {ix : Nat} {q : Nat} (h : xm_as ix ks_6 = some q) : (pg.1 55).2.2.2.2.1 ix = some q := h
theorem no_55 {ix : Nat} {q : Nat × List xm_F} (h : xm_as ix kn_6 = some q) : (pg.1 55).2.2.2.1 ix = some q := h
theorem xo_55 {ix q : Nat} (h : (ym_55).2.2.2.2.2 ix = q) : (pg.1 55).2.2.2.2.2 ix = q := h
theorem in_56 {pc : Nat} {i : Jvm.ClassFile.Instr × Nat} (h : xm_tb pc tb_56 = some i) : (pg.1 56).1 pc = some i := h
theorem nl_56 {a : Nat} (h : Nat.ble (a + 1) 7 = true) : a < pg.2.1 56 := Nat.le_of_ble_eq_true h
theorem kd_56 : pg.2.2.1 56 = 4 := rfl
theorem cl_56 {ix : Nat} {q : Nat × Nat × Nat × Nat} (h : xm_as ix kl_3 = some q) : pg.2.2.2 56 ix = some q := h
theorem fo_56 {ix : Nat} {q : Nat × Nat × Nat} (h : xm_as ix kf_3 = some q) : (pg.1 56).2.2.1 ix = some q := h
theorem ko_56 {ix : Nat} {q : xm_V} (h : xm_as ix kc_3 = some q) : (pg.1 56).2.1 ix = some q := h
theorem so_56 {ix : Nat} {q : Nat} (h : xm_as ix ks_3 = some q) : (pg.1 56).2.2.2.2.1 ix = some q := h
theorem no_56 {ix : Nat} {q : Nat × List xm_F} (h : xm_as ix kn_3 = some q) : (pg.1 56).2.2.2.1 ix = some q := h
theorem xo_56 {ix q : Nat} (h : (ym_56).2.2.2.2.2 ix = q) : (pg.1 56).2.2.2.2.2 ix = q := h
theorem in_57 {pc : Nat} {i : Jvm.ClassFile.Instr × Nat} (h : xm_tb pc tb_57 = some i) : (pg.1 57).1 pc = some i := h
theorem nl_57 {a : Nat} (h : Nat.ble (a + 1) 5 = true) : a < pg.2.1 57 := Nat.le_of_ble_eq_true h
theorem kd_57 : pg.2.2.1 57 = 2 := rfl
theorem cl_57 {ix : Nat} {q : Nat × Nat × Nat × Nat} (h : xm_as ix kl_3 = some q) : pg.2.2.2 57 ix = some q := h
theorem fo_57 {ix : Nat} {q : Nat × Nat × Nat} (h : xm_as ix kf_3 = some q) : (pg.1 57).2.2.1 ix = some q := h
theorem ko_57 {ix : Nat} {q : xm_V} (h : xm_as ix kc_3 = some q) : (pg.1 57).2.1 ix = some q := h
theorem so_57 {ix : Nat} {q : Nat} (h : xm_as ix ks_3 = some q) : (pg.1 57).2.2.2.2.1 ix = some q := h
theorem no_57 {ix : Nat} {q : Nat × List xm_F} (h : xm_as ix kn_3 = some q) : (pg.1 57).2.2.2.1 ix = some q := h
theorem xo_57 {ix q : Nat} (h : (ym_57).2.2.2.2.2 ix = q) : (pg.1 57).2.2.2.2.2 ix = q := h
theorem in_58 {pc : Nat} {i : Jvm.ClassFile.Instr × Nat} (h : xm_tb pc tb_58 = some i) : (pg.1 58).1 pc = some i := h
theorem nl_58 {a : Nat} (h : Nat.ble (a + 1) 3 = true) : a < pg.2.1 58 := Nat.le_of_ble_eq_true h
theorem kd_58 : pg.2.2.1 58 = 1 := rfl
theorem cl_58 {ix : Nat} {q : Nat × Nat × Nat × Nat} (h : xm_as ix kl_3 = some q) : pg.2.2.2 58 ix = some q := h
theorem fo_58 {ix : Nat} {q : Nat × Nat × Nat} (h : xm_as ix kf_3 = some q) : (pg.1 58).2.2.1 ix = some q := h
theorem ko_58 {ix : Nat} {q : xm_V} (h : xm_as ix kc_3 = some q) : (pg.1 58).2.1 ix = some q := h
theorem so_58 {ix : Nat} {q : Nat} (h : xm_as ix ks_3 = some q) : (pg.1 58).2.2.2.2.1 ix = some q := h
theorem no_58 {ix : Nat} {q : Nat × List xm_F} (h : xm_as ix kn_3 = some q) : (pg.1 58).2.2.2.1 ix = some q := h
theorem xo_58 {ix q : Nat} (h : (ym_58).2.2.2.2.2 ix = q) : (pg.1 58).2.2.2.2.2 ix = q := h
theorem in_59 {pc : Nat} {i : Jvm.ClassFile.Instr × Nat} (h : xm_tb pc tb_59 = some i) : (pg.1 59).1 pc = some i := h
theorem nl_59 {a : Nat} (h : Nat.ble (a + 1) 10 = true) : a < pg.2.1 59 := Nat.le_of_ble_eq_true h
theorem kd_59 : pg.2.2.1 59 = 2 := rfl
theorem cl_59 {ix : Nat} {q : Nat × Nat × Nat × Nat} (h : xm_as ix kl_3 = some q) : pg.2.2.2 59 ix = some q := h
theorem fo_59 {ix : Nat} {q : Nat × Nat × Nat} (h : xm_as ix kf_3 = some q) : (pg.1 59).2.2.1 ix = some q := h
theorem ko_59 {ix : Nat} {q : xm_V} (h : xm_as ix kc_3 = some q) : (pg.1 59).2.1 ix = some q := h
theorem so_59 {ix : Nat} {q : Nat} (h : xm_as ix ks_3 = some q) : (pg.1 59).2.2.2.2.1 ix = some q := h
theorem no_59 {ix : Nat} {q : Nat × List xm_F} (h : xm_as ix kn_3 = some q) : (pg.1 59).2.2.2.1 ix = some q := h
theorem xo_59 {ix q : Nat} (h : (ym_59).2.2.2.2.2 ix = q) : (pg.1 59).2.2.2.2.2 ix = q := h
theorem in_60 {pc : Nat} {i : Jvm.ClassFile.Instr × Nat} (h : xm_tb pc tb_60 = some i) : (pg.1 60).1 pc = some i := h
theorem nl_60 {a : Nat} (h : Nat.ble (a + 1) 7 = true) : a < pg.2.1 60 := Nat.le_of_ble_eq_true h
theorem kd_60 : pg.2.2.1 60 = 2 := rfl
theorem cl_60 {ix : Nat} {q : Nat × Nat × Nat × Nat} (h : xm_as ix kl_3 = some q) : pg.2.2.2 60 ix = some q := h
theorem fo_60 {ix : Nat} {q : Nat × Nat × Nat} (h : xm_as ix kf_3 = some q) : (pg.1 60).2.2.1 ix = some q := h
theorem ko_60 {ix : Nat} {q : xm_V} (h : xm_as ix kc_3 = some q) : (pg.1 60).2.1 ix = some q := h
theorem so_60 {ix : Nat} {q : Nat} (h : xm_as ix ks_3 = some q) : (pg.1 60).2.2.2.2.1 ix = some q := h
theorem no_60 {ix : Nat} {q : Nat × List xm_F} (h : xm_as ix kn_3 = some q) : (pg.1 60).2.2.2.1 ix = some q := h
theorem xo_60 {ix q : Nat} (h : (ym_60).2.2.2.2.2 ix = q) : (pg.1 60).2.2.2.2.2 ix = q := h
theorem in_61 {pc : Nat} {i : Jvm.ClassFile.Instr × Nat} (h : xm_tb pc tb_61 = some i) : (pg.1 61).1 pc = some i := h
theorem nl_61 {a : Nat} (h : Nat.ble (a + 1) 4 = true) : a < pg.2.1 61 := Nat.le_of_ble_eq_true h
theorem kd_61 : pg.2.2.1 61 = 1 := rfl
theorem cl_61 {ix : Nat} {q : Nat × Nat × Nat × Nat} (h : xm_as ix kl_3 = some q) : pg.2.2.2 61 ix = some q := h
theorem fo_61 {ix : Nat} {q : Nat × Nat × Nat} (h : xm_as ix kf_3 = some q) : (pg.1 61).2.2.1 ix = some q := h
theorem ko_61 {ix : Nat} {q : xm_V} (h : xm_as ix kc_3 = some q) : (pg.1 61).2.1 ix = some q := h
theorem so_61 {ix : Nat} {q : Nat} (h : xm_as ix ks_3 = some q) : (pg.1 61).2.2.2.2.1 ix = some q := h
theorem no_61 {ix : Nat} {q : Nat × List xm_F} (h : xm_as ix kn_3 = some q) : (pg.1 61).2.2.2.1 ix = some q := h
theorem xo_61 {ix q : Nat} (h : (ym_61).2.2.2.2.2 ix = q) : (pg.1 61).2.2.2.2.2 ix = q := h
theorem in_62 {pc : Nat} {i : Jvm.ClassFile.Instr × Nat} (h : xm_tb pc tb_62 = some i) : (pg.1 62).1 pc = some i := h
theorem nl_62 {a : Nat} (h : Nat.ble (a + 1) 4 = true) : a < pg.2.1 62 := Nat.le_of_ble_eq_true h
theorem kd_62 : pg.2.2.1 62 = 4 := rfl
theorem cl_62 {ix : Nat} {q : Nat × Nat × Nat × Nat} (h : xm_as ix kl_3 = some q) : pg.2.2.2 62 ix = some q := h
theorem fo_62 {ix : Nat} {q : Nat × Nat × Nat} (h : xm_as ix kf_3 = some q) : (pg.1 62).2.2.1 ix = some q := h
theorem ko_62 {ix : Nat} {q : xm_V} (h : xm_as ix kc_3 = some q) : (pg.1 62).2.1 ix = some q := h
theorem so_62 {ix : Nat} {q : Nat} (h : xm_as ix ks_3 = some q) : (pg.1 62).2.2.2.2.1 ix = some q := h
theorem no_62 {ix : Nat} {q : Nat × List xm_F} (h : xm_as ix kn_3 = some q) : (pg.1 62).2.2.2.1 ix = some q := h
theorem xo_62 {ix q : Nat} (h : (ym_62).2.2.2.2.2 ix = q) : (pg.1 62).2.2.2.2.2 ix = q := h
theorem in_63 {pc : Nat} {i : Jvm.ClassFile.Instr × Nat} (h : xm_tb pc tb_63 = some i) : (pg.1 63).1 pc = some i := h
theorem nl_63 {a : Nat} (h : Nat.ble (a + 1) 4 = true) : a < pg.2.1 63 := Nat.le_of_ble_eq_true h
theorem kd_63 : pg.2.2.1 63 = 4 := rfl
theorem cl_63 {ix : Nat} {q : Nat × Nat × Nat × Nat} (h : xm_as ix kl_3 = some q) : pg.2.2.2 63 ix = some q := h
theorem fo_63 {ix : Nat} {q : Nat × Nat × Nat} (h : xm_as ix kf_3 = some q) : (pg.1 63).2.2.1 ix = some q := h
theorem ko_63 {ix : Nat} {q : xm_V} (h : xm_as ix kc_3 = some q) : (pg.1 63).2.1 ix = some q := h
theorem so_63 {ix : Nat} {q : Nat} (h : xm_as ix ks_3 = some q) : (pg.1 63).2.2.2.2.1 ix = some q := h
theorem no_63 {ix : Nat} {q : Nat × List xm_F} (h : xm_as ix kn_3 = some q) : (pg.1 63).2.2.2.1 ix = some q := h
theorem xo_63 {ix q : Nat} (h : (ym_63).2.2.2.2.2 ix = q) : (pg.1 63).2.2.2.2.2 ix = q := h
theorem in_64 {pc : Nat} {i : Jvm.ClassFile.Instr × Nat} (h : xm_tb pc tb_64 = some i) : (pg.1 64).1 pc = some i := h
theorem nl_64 {a : Nat} (h : Nat.ble (a + 1) 4 = true) : a < pg.2.1 64 := Nat.le_of_ble_eq_true h
theorem kd_64 : pg.2.2.1 64 = 4 := rfl
theorem cl_64 {ix : Nat} {q : Nat × Nat × Nat × Nat} (h : xm_as ix kl_3 = some q) : pg.2.2.2 64 ix = some q := h
theorem fo_64 {ix : Nat} {q : Nat × Nat × Nat} (h : xm_as ix kf_3 = some q) : (pg.1 64).2.2.1 ix = some q := h
theorem ko_64 {ix : Nat} {q : xm_V} (h : xm_as ix kc_3 = some q) : (pg.1 64).2.1 ix = some q := h
theorem so_64 {ix : Nat} {q : Nat} (h : xm_as ix ks_3 = some q) : (pg.1 64).2.2.2.2.1 ix = some q := h
theorem no_64 {ix : Nat} {q : Nat × List xm_F} (h : xm_as ix kn_3 = some q) : (pg.1 64).2.2.2.1 ix = some q := h
theorem xo_64 {ix q : Nat} (h : (ym_64).2.2.2.2.2 ix = q) : (pg.1 64).2.2.2.2.2 ix = q := h
theorem in_65 {pc : Nat} {i : Jvm.ClassFile.Instr × Nat} (h : xm_tb pc tb_65 = some i) : (pg.1 65).1 pc = some i := h
theorem nl_65 {a : Nat} (h : Nat.ble (a + 1) 5 = true) : a < pg.2.1 65 := Nat.le_of_ble_eq_true h
theorem kd_65 : pg.2.2.1 65 = 1 := rfl
theorem cl_65 {ix : Nat} {q : Nat × Nat × Nat × Nat} (h : xm_as ix kl_3 = some q) : pg.2.2.2 65 ix = some q := h
theorem fo_65 {ix : Nat} {q : Nat × Nat × Nat} (h : xm_as ix kf_3 = some q) : (pg.1 65).2.2.1 ix = some q := h
theorem ko_65 {ix : Nat} {q : xm_V} (h : xm_as ix kc_3 = some q) : (pg.1 65).2.1 ix = some q := h
theorem so_65 {ix : Nat} {q : Nat} (h : xm_as ix ks_3 = some q) : (pg.1 65).2.2.2.2.1 ix = some q := h
theorem no_65 {ix : Nat} {q : Nat × List xm_F} (h : xm_as ix kn_3 = some q) : (pg.1 65).2.2.2.1 ix = some q := h
theorem xo_65 {ix q : Nat} (h : (ym_65).2.2.2.2.2 ix = q) : (pg.1 65).2.2.2.2.2 ix = q := h
theorem in_66 {pc : Nat} {i : Jvm.ClassFile.Instr × Nat} (h : xm_tb pc tb_66 = some i) : (pg.1 66).1 pc = some i := h
theorem nl_66 {a : Nat} (h : Nat.ble (a + 1) 5 = true) : a < pg.2.1 66 := Nat.le_of_ble_eq_true h
theorem kd_66 : pg.2.2.1 66 = 4 := rfl
theorem cl_66 {ix : Nat} {q : Nat × Nat × Nat × Nat} (h : xm_as ix kl_3 = some q) : pg.2.2.2 66 ix = some q := h
theorem fo_66 {ix : Nat} {q : Nat × Nat × Nat} (h : xm_as ix kf_3 = some q) : (pg.1 66).2.2.1 ix = some q := h
theorem ko_66 {ix : Nat} {q : xm_V} (h : xm_as ix kc_3 = some q) : (pg.1 66).2.1 ix = some q := h
theorem so_66 {ix : Nat} {q : Nat} (h : xm_as ix ks_3 = some q) : (pg.1 66).2.2.2.2.1 ix = some q := h
theorem no_66 {ix : Nat} {q : Nat × List xm_F} (h : xm_as ix kn_3 = some q) : (pg.1 66).2.2.2.1 ix = some q := h
theorem xo_66 {ix q : Nat} (h : (ym_66).2.2.2.2.2 ix = q) : (pg.1 66).2.2.2.2.2 ix = q := h
theorem in_67 {pc : Nat} {i : Jvm.ClassFile.Instr × Nat} (h : xm_tb pc tb_67 = some i) : (pg.1 67).1 pc = some i := h
theorem nl_67 {a : Nat} (h : Nat.ble (a + 1) 4 = true) : a < pg.2.1 67 := Nat.le_of_ble_eq_true h
theorem kd_67 : pg.2.2.1 67 = 1 := rfl
theorem cl_67 {ix : Nat} {q : Nat × Nat × Nat × Nat} (h : xm_as ix kl_3 = some q) : pg.2.2.2 67 ix = some q := h
theorem fo_67 {ix : Nat} {q : Nat × Nat × Nat} (h : xm_as ix kf_3 = some q) : (pg.1 67).2.2.1 ix = some q := h
theorem ko_67 {ix : Nat} {q : xm_V} (h : xm_as ix kc_3 = some q) : (pg.1 67).2.1 ix = some q := h
theorem so_67 {ix : Nat} {q : Nat} (h : xm_as ix ks_3 = some q) : (pg.1 67).2.2.2.2.1 ix = some q := h
theorem no_67 {ix : Nat} {q : Nat × List xm_F} (h : xm_as ix kn_3 = some q) : (pg.1 67).2.2.2.1 ix = some q := h
theorem xo_67 {ix q : Nat} (h : (ym_67).2.2.2.2.2 ix = q) : (pg.1 67).2.2.2.2.2 ix = q := h
theorem in_68 {pc : Nat} {i : Jvm.ClassFile.Instr × Nat} (h : xm_tb pc tb_68 = some i) : (pg.1 68).1 pc = some i := h
theorem nl_68 {a : Nat} (h : Nat.ble (a + 1) 4 = true) : a < pg.2.1 68 := Nat.le_of_ble_eq_true h
theorem kd_68 : pg.2.2.1 68 = 1 := rfl
theorem cl_68 {ix : Nat} {q : Nat × Nat × Nat × Nat} (h : xm_as ix kl_3 = some q) : pg.2.2.2 68 ix = some q := h
theorem fo_68 {ix : Nat} {q : Nat × Nat × Nat} (h : xm_as ix kf_3 = some q) : (pg.1 68).2.2.1 ix = some q := h
theorem ko_68 {ix : Nat} {q : xm_V} (h : xm_as ix kc_3 = some q) : (pg.1 68).2.1 ix = some q := h
theorem so_68 {ix : Nat} {q : Nat} (h : xm_as ix ks_3 = some q) : (pg.1 68).2.2.2.2.1 ix = some q := h
theorem no_68 {ix : Nat} {q : Nat × List xm_F} (h : xm_as ix kn_3 = some q) : (pg.1 68).2.2.2.1 ix = some q := h
theorem xo_68 {ix q : Nat} (h : (ym_68).2.2.2.2.2 ix = q) : (pg.1 68).2.2.2.2.2 ix = q := h
theorem in_69 {pc : Nat} {i : Jvm.ClassFile.Instr × Nat} (h : xm_tb pc tb_69 = some i) : (pg.1 69).1 pc = some i := h
theorem nl_69 {a : Nat} (h : Nat.ble (a + 1) 4 = true) : a < pg.2.1 69 := Nat.le_of_ble_eq_true h
theorem kd_69 : pg.2.2.1 69 = 0 := rfl
theorem cl_69 {ix : Nat} {q : Nat × Nat × Nat × Nat} (h : xm_as ix kl_6 = some q) : pg.2.2.2 69 ix = some q := h
theorem fo_69 {ix : Nat} {q : Nat × Nat × Nat} (h : xm_as ix kf_6 = some q) : (pg.1 69).2.2.1 ix = some q := h
theorem ko_69 {ix : Nat} {q : xm_V} (h : xm_as ix kc_6 = some q) : (pg.1 69).2.1 ix = some q := h
theorem so_69 {ix : Nat} {q : Nat} (h : xm_as ix ks_6 = some q) : (pg.1 69).2.2.2.2.1 ix = some q := h
theorem no_69 {ix : Nat} {q : Nat × List xm_F} (h : xm_as ix kn_6 = some q) : (pg.1 69).2.2.2.1 ix = some q := h
theorem xo_69 {ix q : Nat} (h : (ym_69).2.2.2.2.2 ix = q) : (pg.1 69).2.2.2.2.2 ix = q := h
theorem in_70 {pc : Nat} {i : Jvm.ClassFile.Instr × Nat} (h : xm_tb pc tb_70 = some i) : (pg.1 70).1 pc = some i := h
theorem nl_70 {a : Nat} (h : Nat.ble (a + 1) 2 = true) : a < pg.2.1 70 := Nat.le_of_ble_eq_true h
theorem kd_70 : pg.2.2.1 70 = 0 := rfl
theorem cl_70 {ix : Nat} {q : Nat × Nat × Nat × Nat} (h : xm_as ix kl_6 = some q) : pg.2.2.2 70 ix = some q := h
theorem fo_70 {ix : Nat} {q : Nat × Nat × Nat} (h : xm_as ix kf_6 = some q) : (pg.1 70).2.2.1 ix = some q := h
theorem ko_70 {ix : Nat} {q : xm_V} (h : xm_as ix kc_6 = some q) : (pg.1 70).2.1 ix = some q := h
theorem so_70 {ix : Nat} {q : Nat} (h : xm_as ix ks_6 = some q) : (pg.1 70).2.2.2.2.1 ix = some q := h
theorem no_70 {ix : Nat} {q : Nat × List xm_F} (h : xm_as ix kn_6 = some q) : (pg.1 70).2.2.2.1 ix = some q := h
theorem xo_70 {ix q : Nat} (h : (ym_70).2.2.2.2.2 ix = q) : (pg.1 70).2.2.2.2.2 ix = q := h
theorem in_71 {pc : Nat} {i : Jvm.ClassFile.Instr × Nat} (h : xm_tb pc tb_71 = some i) : (pg.1 71).1 pc = some i := h
theorem nl_71 {a : Nat} (h : Nat.ble (a + 1) 2 = true) : a < pg.2.1 71 := Nat.le_of_ble_eq_true h
theorem kd_71 : pg.2.2.1 71 = 1 := rfl
theorem cl_71 {ix : Nat} {q : Nat × Nat × Nat × Nat} (h : xm_as ix kl_6 = some q) : pg.2.2.2 71 ix = some q := h
theorem fo_71 {ix : Nat} {q : Nat × Nat × Nat} (h : xm_as ix kf_6 = some q) : (pg.1 71).2.2.1 ix = some q := h
theorem ko_71 {ix : Nat} {q : xm_V} (h : xm_as ix kc_6 = some q) : (pg.1 71).2.1 ix = some q := h
theorem so_71 {ix : Nat} {q : Nat} (h : xm_as ix ks_6 = some q) : (pg.1 71).2.2.2.2.1 ix = some q := h
theorem no_71 {ix : Nat} {q : Nat × List xm_F} (h : xm_as ix kn_6 = some q) : (pg.1 71).2.2.2.1 ix = some q := h
theorem xo_71 {ix q : Nat} (h : (ym_71).2.2.2.2.2 ix = q) : (pg.1 71).2.2.2.2.2 ix = q := h
theorem in_72 {pc : Nat} {i : Jvm.ClassFile.Instr × Nat} (h : xm_tb pc tb_72 = some i) : (pg.1 72).1 pc = some i := h
theorem nl_72 {a : Nat} (h : Nat.ble (a + 1) 6 = true) : a < pg.2.1 72 := Nat.le_of_ble_eq_true h
theorem kd_72 : pg.2.2.1 72 = 0 := rfl
theorem cl_72 {ix : Nat} {q : Nat × Nat × Nat × Nat} (h : xm_as ix kl_6 = some q) : pg.2.2.2 72 ix = some q := h
theorem fo_72 {ix : Nat} {q : Nat × Nat × Nat} (h : xm_as ix kf_6 = some q) : (pg.1 72).2.2.1 ix = some q := h
theorem ko_72 {ix : Nat} {q : xm_V} (h : xm_as ix kc_6 = some q) : (pg.1 72).2.1 ix = some q := h
theorem so_72 {ix : Nat} {q : Nat} (h : xm_as ix ks_6 = some q) : (pg.1 72).2.2.2.2.1 ix = some q := h
theorem no_72 {ix : Nat} {q : Nat × List xm_F} (h : xm_as ix kn_6 = some q) : (pg.1 72).2.2.2.1 ix = some q := h
theorem xo_72 {ix q : Nat} (h : (ym_72).2.2.2.2.2 ix = q) : (pg.1 72).2.2.2.2.2 ix = q := h
theorem in_73 {pc : Nat} {i : Jvm.ClassFile.Instr × Nat} (h : xm_tb pc tb_73 = some i) : (pg.1 73).1 pc = some i := h
theorem nl_73 {a : Nat} (h : Nat.ble (a + 1) 4 = true) : a < pg.2.1 73 := Nat.le_of_ble_eq_true h
theorem kd_73 : pg.2.2.1 73 = 0 := rfl
theorem cl_73 {ix : Nat} {q : Nat × Nat × Nat × Nat} (h : xm_as ix kl_6 = some q) : pg.2.2.2 73 ix = some q := h
theorem fo_73 {ix : Nat} {q : Nat × Nat × Nat} (h : xm_as ix kf_6 = some q) : (pg.1 73).2.2.1 ix = some q := h
theorem ko_73 {ix : Nat} {q : xm_V} (h : xm_as ix kc_6 = some q) : (pg.1 73).2.1 ix = some q := h
theorem so_73 {ix : Nat} {q : Nat} (h : xm_as ix ks_6 = some q) : (pg.1 73).2.2.2.2.1 ix = some q := h
theorem no_73 {ix : Nat} {q : Nat × List xm_F} (h : xm_as ix kn_6 = some q) : (pg.1 73).2.2.2.1 ix = some q := h
theorem xo_73 {ix q : Nat} (h : (ym_73).2.2.2.2.2 ix = q) : (pg.1 73).2.2.2.2.2 ix = q := h
theorem in_74 {pc : Nat} {i : Jvm.ClassFile.Instr × Nat} (h : xm_tb pc tb_74 = some i) : (pg.1 74).1 pc = some i := h
theorem nl_74 {a : Nat} (h : Nat.ble (a + 1) 2 = true) : a < pg.2.1 74 := Nat.le_of_ble_eq_true h
theorem kd_74 : pg.2.2.1 74 = 1 := rfl
theorem cl_74 {ix : Nat} {q : Nat × Nat × Nat × Nat} (h : xm_as ix kl_0 = some q) : pg.2.2.2 74 ix = some q := h
theorem fo_74 {ix : Nat} {q : Nat × Nat × Nat} (h : xm_as ix kf_0 = some q) : (pg.1 74).2.2.1 ix = some q := h
theorem ko_74 {ix : Nat} {q : xm_V} (h : xm_as ix kc_0 = some q) : (pg.1 74).2.1 ix = some q := h
theorem so_74 {ix : Nat} {q : Nat} (h : xm_as ix ks_0 = some q) : (pg.1 74).2.2.2.2.1 ix = some q := h
theorem no_74 {ix : Nat} {q : Nat × List xm_F} (h : xm_as ix kn_0 = some q) : (pg.1 74).2.2.2.1 ix = some q := h
theorem xo_74 {ix q : Nat} (h : (ym_74).2.2.2.2.2 ix = q) : (pg.1 74).2.2.2.2.2 ix = q := h
theorem in_75 {pc : Nat} {i : Jvm.ClassFile.Instr × Nat} (h : xm_tb pc tb_75 = some i) : (pg.1 75).1 pc = some i := h
theorem nl_75 {a : Nat} (h : Nat.ble (a + 1) 3 = true) : a < pg.2.1 75 := Nat.le_of_ble_eq_true h
theorem kd_75 : pg.2.2.1 75 = 1 := rfl
theorem cl_75 {ix : Nat} {q : Nat × Nat × Nat × Nat} (h : xm_as ix kl_0 = some q) : pg.2.2.2 75 ix = some q := h
theorem fo_75 {ix : Nat} {q : Nat × Nat × Nat} (h : xm_as ix kf_0 = some q) : (pg.1 75).2.2.1 ix = some q := h
theorem ko_75 {ix : Nat} {q : xm_V} (h : xm_as ix kc_0 = some q) : (pg.1 75).2.1 ix = some q := h
theorem so_75 {ix : Nat} {q : Nat} (h : xm_as ix ks_0 = some q) : (pg.1 75).2.2.2.2.1 ix = some q := h
theorem no_75 {ix : Nat} {q : Nat × List xm_F} (h : xm_as ix kn_0 = some q) : (pg.1 75).2.2.2.1 ix = some q := h
theorem xo_75 {ix q : Nat} (h : (ym_75).2.2.2.2.2 ix = q) : (pg.1 75).2.2.2.2.2 ix = q := h
theorem in_76 {pc : Nat} {i : Jvm.ClassFile.Instr × Nat} (h : xm_tb pc tb_76 = some i) : (pg.1 76).1 pc = some i := h
theorem nl_76 {a : Nat} (h : Nat.ble (a + 1) 2 = true) : a < pg.2.1 76 := Nat.le_of_ble_eq_true h
theorem kd_76 : pg.2.2.1 76 = 4 := rfl
theorem cl_76 {ix : Nat} {q : Nat × Nat × Nat × Nat} (h : xm_as ix kl_6 = some q) : pg.2.2.2 76 ix = some q := h
theorem fo_76 {ix : Nat} {q : Nat × Nat × Nat} (h : xm_as ix kf_6 = some q) : (pg.1 76).2.2.1 ix = some q := h
theorem ko_76 {ix : Nat} {q : xm_V} (h : xm_as ix kc_6 = some q) : (pg.1 76).2.1 ix = some q := h
theorem so_76 {ix : Nat} {q : Nat} (h : xm_as ix ks_6 = some q) : (pg.1 76).2.2.2.2.1 ix = some q := h
theorem no_76 {ix : Nat} {q : Nat × List xm_F} (h : xm_as ix kn_6 = some q) : (pg.1 76).2.2.2.1 ix = some q := h
theorem xo_76 {ix q : Nat} (h : (ym_76).2.2.2.2.2 ix = q) : (pg.1 76).2.2.2.2.2 ix = q := h
theorem in_77 {pc : Nat} {i : Jvm.ClassFile.Instr × Nat} (h : xm_tb pc tb_77 = some i) : (pg.1 77).1 pc = some i := h
theorem nl_77 {a : Nat} (h : Nat.ble (a + 1) 1 = true) : a < pg.2.1 77 := Nat.le_of_ble_eq_true h
theorem kd_77 : pg.2.2.1 77 = 4 := rfl
theorem cl_77 {ix : Nat} {q : Nat × Nat × Nat × Nat} (h : xm_as ix kl_0 = some q) : pg.2.2.2 77 ix = some q := h
theorem fo_77 {ix : Nat} {q : Nat × Nat × Nat} (h : xm_as ix kf_0 = some q) : (pg.1 77).2.2.1 ix = some q := h
theorem ko_77 {ix : Nat} {q : xm_V} (h : xm_as ix kc_0 = some q) : (pg.1 77).2.1 ix = some q := h
theorem so_77 {ix : Nat} {q : Nat} (h : xm_as ix ks_0 = some q) : (pg.1 77).2.2.2.2.1 ix = some q := h
theorem no_77 {ix : Nat} {q : Nat × List xm_F} (h : xm_as ix kn_0 = some q) : (pg.1 77).2.2.2.1 ix = some q := h
theorem xo_77 {ix q : Nat} (h : (ym_77).2.2.2.2.2 ix = q) : (pg.1 77).2.2.2.2.2 ix = q := h
theorem in_78 {pc : Nat} {i : Jvm.ClassFile.Instr × Nat} (h : xm_tb pc tb_78 = some i) : (pg.1 78).1 pc = some i := h
theorem nl_78 {a : Nat} (h : Nat.ble (a + 1) 3 = true) : a < pg.2.1 78 := Nat.le_of_ble_eq_true h
theorem kd_78 : pg.2.2.1 78 = 1 := rfl
theorem cl_78 {ix : Nat} {q : Nat × Nat × Nat × Nat} (h : xm_as ix kl_0 = some q) : pg.2.2.2 78 ix = some q := h
theorem fo_78 {ix : Nat} {q : Nat × Nat × Nat} (h : xm_as ix kf_0 = some q) : (pg.1 78).2.2.1 ix = some q := h
theorem ko_78 {ix : Nat} {q : xm_V} (h : xm_as ix kc_0 = some q) : (pg.1 78).2.1 ix = some q := h
theorem so_78 {ix : Nat} {q : Nat} (h : xm_as ix ks_0 = some q) : (pg.1 78).2.2.2.2.1 ix = some q := h
theorem no_78 {ix : Nat} {q : Nat × List xm_F} (h : xm_as ix kn_0 = some q) : (pg.1 78).2.2.2.1 ix = some q := h
theorem xo_78 {ix q : Nat} (h : (ym_78).2.2.2.2.2 ix = q) : (pg.1 78).2.2.2.2.2 ix = q := h
theorem in_79 {pc : Nat} {i : Jvm.ClassFile.Instr × Nat} (h : xm_tb pc tb_79 = some i) : (pg.1 79).1 pc = some i := h
theorem nl_79 {a : Nat} (h : Nat.ble (a + 1) 1 = true) : a < pg.2.1 79 := Nat.le_of_ble_eq_true h
theorem kd_79 : pg.2.2.1 79 = 0 := rfl
theorem cl_79 {ix : Nat} {q : Nat × Nat × Nat × Nat} (h : xm_as ix kl_9 = some q) : pg.2.2.2 79 ix = some q := h
theorem fo_79 {ix : Nat} {q : Nat × Nat × Nat} (h : xm_as ix kf_9 = some q) : (pg.1 79).2.2.1 ix = some q := h
theorem ko_79 {ix : Nat} {q : xm_V} (h : xm_as ix kc_9 = some q) : (pg.1 79).2.1 ix = some q := h
theorem so_79 {ix : Nat} {q : Nat} (h : xm_as ix ks_9 = some q) : (pg.1 79).2.2.2.2.1 ix = some q := h
theorem no_79 {ix : Nat} {q : Nat × List xm_F} (h : xm_as ix kn_9 = some q) : (pg.1 79).2.2.2.1 ix = some q := h
theorem xo_79 {ix q : Nat} (h : (ym_79).2.2.2.2.2 ix = q) : (pg.1 79).2.2.2.2.2 ix = q := h
theorem in_80 {pc : Nat} {i : Jvm.ClassFile.Instr × Nat} (h : xm_tb pc tb_80 = some i) : (pg.1 80).1 pc = some i := h
theorem nl_80 {a : Nat} (h : Nat.ble (a + 1) 4 = true) : a < pg.2.1 80 := Nat.le_of_ble_eq_true h
theorem kd_80 : pg.2.2.1 80 = 1 := rfl
theorem cl_80 {ix : Nat} {q : Nat × Nat × Nat × Nat} (h : xm_as ix kl_9 = some q) : pg.2.2.2 80 ix = some q := h
theorem fo_80 {ix : Nat} {q : Nat × Nat × Nat} (h : xm_as ix kf_9 = some q) : (pg.1 80).2.2.1 ix = some q := h
theorem ko_80 {ix : Nat} {q : xm_V} (h : xm_as ix kc_9 = some q) : (pg.1 80).2.1 ix = some q := h
theorem so_80 {ix : Nat} {q : Nat} (h : xm_as ix ks_9 = some q) : (pg.1 80).2.2.2.2.1 ix = some q := h
theorem no_80 {ix : Nat} {q : Nat × List xm_F} (h : xm_as ix kn_9 = some q) : (pg.1 80).2.2.2.1 ix = some q := h
theorem xo_80 {ix q : Nat} (h : (ym_80).2.2.2.2.2 ix = q) : (pg.1 80).2.2.2.2.2 ix = q := h
theorem in_81 {pc : Nat} {i : Jvm.ClassFile.Instr × Nat} (h : xm_tb pc tb_81 = some i) : (pg.1 81).1 pc = some i := h
theorem nl_81 {a : Nat} (h : Nat.ble (a + 1) 2 = true) : a < pg.2.1 81 := Nat.le_of_ble_eq_true h
theorem kd_81 : pg.2.2.1 81 = 4 := rfl
theorem cl_81 {ix : Nat} {q : Nat × Nat × Nat × Nat} (h : xm_as ix kl_9 = some q) : pg.2.2.2 81 ix = some q := h
theorem fo_81 {ix : Nat} {q : Nat × Nat × Nat} (h : xm_as ix kf_9 = some q) : (pg.1 81).2.2.1 ix = some q := h
theorem ko_81 {ix : Nat} {q : xm_V} (h : xm_as ix kc_9 = some q) : (pg.1 81).2.1 ix = some q := h
theorem so_81 {ix : Nat} {q : Nat} (h : xm_as ix ks_9 = some q) : (pg.1 81).2.2.2.2.1 ix = some q := h
theorem no_81 {ix : Nat} {q : Nat × List xm_F} (h : xm_as ix kn_9 = some q) : (pg.1 81).2.2.2.1 ix = some q := h
theorem xo_81 {ix q : Nat} (h : (ym_81).2.2.2.2.2 ix = q) : (pg.1 81).2.2.2.2.2 ix = q := h
theorem in_82 {pc : Nat} {i : Jvm.ClassFile.Instr × Nat} (h : xm_tb pc tb_82 = some i) : (pg.1 82).1 pc = some i := h
theorem nl_82 {a : Nat} (h : Nat.ble (a + 1) 1 = true) : a < pg.2.1 82 := Nat.le_of_ble_eq_true h
theorem kd_82 : pg.2.2.1 82 = 4 := rfl
theorem cl_82 {ix : Nat} {q : Nat × Nat × Nat × Nat} (h : xm_as ix kl_9 = some q) : pg.2.2.2 82 ix = some q := h
theorem fo_82 {ix : Nat} {q : Nat × Nat × Nat} (h : xm_as ix kf_9 = some q) : (pg.1 82).2.2.1 ix = some q := h
theorem ko_82 {ix : Nat} {q : xm_V} (h : xm_as ix kc_9 = some q) : (pg.1 82).2.1 ix = some q := h
theorem so_82 {ix : Nat} {q : Nat} (h : xm_as ix ks_9 = some q) : (pg.1 82).2.2.2.2.1 ix = some q := h
theorem no_82 {ix : Nat} {q : Nat × List xm_F} (h : xm_as ix kn_9 = some q) : (pg.1 82).2.2.2.1 ix = some q := h
theorem xo_82 {ix q : Nat} (h : (ym_82).2.2.2.2.2 ix = q) : (pg.1 82).2.2.2.2.2 ix = q := h
theorem in_83 {pc : Nat} {i : Jvm.ClassFile.Instr × Nat} (h : xm_tb pc tb_83 = some i) : (pg.1 83).1 pc = some i := h
theorem nl_83 {a : Nat} (h : Nat.ble (a + 1) 5 = true) : a < pg.2.1 83 := Nat.le_of_ble_eq_true h
theorem kd_83 : pg.2.2.1 83 = 1 := rfl
theorem cl_83 {ix : Nat} {q : Nat × Nat × Nat × Nat} (h : xm_as ix kl_9 = some q) : pg.2.2.2 83 ix = some q := h
theorem fo_83 {ix : Nat} {q : Nat × Nat × Nat} (h : xm_as ix kf_9 = some q) : (pg.1 83).2.2.1 ix = some q := h
theorem ko_83 {ix : Nat} {q : xm_V} (h : xm_as ix kc_9 = some q) : (pg.1 83).2.1 ix = some q := h
theorem so_83 {ix : Nat} {q : Nat} (h : xm_as ix ks_9 = some q) : (pg.1 83).2.2.2.2.1 ix = some q := h
theorem no_83 {ix : Nat} {q : Nat × List xm_F} (h : xm_as ix kn_9 = some q) : (pg.1 83).2.2.2.1 ix = some q := h
theorem xo_83 {ix q : Nat} (h : (ym_83).2.2.2.2.2 ix = q) : (pg.1 83).2.2.2.2.2 ix = q := h
theorem in_84 {pc : Nat} {i : Jvm.ClassFile.Instr × Nat} (h : xm_tb pc tb_84 = some i) : (pg.1 84).1 pc = some i := h
theorem nl_84 {a : Nat} (h : Nat.ble (a + 1) 9 = true) : a < pg.2.1 84 := Nat.le_of_ble_eq_true h
theorem kd_84 : pg.2.2.1 84 = 1 := rfl
theorem cl_84 {ix : Nat} {q : Nat × Nat × Nat × Nat} (h : xm_as ix kl_9 = some q) : pg.2.2.2 84 ix = some q := h
theorem fo_84 {ix : Nat} {q : Nat × Nat × Nat} (h : xm_as ix kf_9 = some q) : (pg.1 84).2.2.1 ix = some q := h
theorem ko_84 {ix : Nat} {q : xm_V} (h : xm_as ix kc_9 = some q) : (pg.1 84).2.1 ix = some q := h
theorem so_84 {ix : Nat} {q : Nat} (h : xm_as ix ks_9 = some q) : (pg.1 84).2.2.2.2.1 ix = some q := h
theorem no_84 {ix : Nat} {q : Nat × List xm_F} (h : xm_as ix kn_9 = some q) : (pg.1 84).2.2.2.1 ix = some q := h
theorem xo_84 {ix q : Nat} (h : (ym_84).2.2.2.2.2 ix = q) : (pg.1 84).2.2.2.2.2 ix = q := h
theorem in_85 {pc : Nat} {i : Jvm.ClassFile.Instr × Nat} (h : xm_tb pc tb_85 = some i) : (pg.1 85).1 pc = some i := h
theorem nl_85 {a : Nat} (h : Nat.ble (a + 1) 1 = true) : a < pg.2.1 85 := Nat.le_of_ble_eq_true h
theorem kd_85 : pg.2.2.1 85 = 1 := rfl
theorem cl_85 {ix : Nat} {q : Nat × Nat × Nat × Nat} (h : xm_as ix kl_9 = some q) : pg.2.2.2 85 ix = some q := h
theorem fo_85 {ix : Nat} {q : Nat × Nat × Nat} (h : xm_as ix kf_9 = some q) : (pg.1 85).2.2.1 ix = some q := h
theorem ko_85 {ix : Nat} {q : xm_V} (h : xm_as ix kc_9 = some q) : (pg.1 85).2.1 ix = some q := h
theorem so_85 {ix : Nat} {q : Nat} (h : xm_as ix ks_9 = some q) : (pg.1 85).2.2.2.2.1 ix = some q := h
theorem no_85 {ix : Nat} {q : Nat × List xm_F} (h : xm_as ix kn_9 = some q) : (pg.1 85).2.2.2.1 ix = some q := h
theorem xo_85 {ix q : Nat} (h : (ym_85).2.2.2.2.2 ix = q) : (pg.1 85).2.2.2.2.2 ix = q := h
theorem in_86 {pc : Nat} {i : Jvm.ClassFile.Instr × Nat} (h : xm_tb pc tb_86 = some i) : (pg.1 86).1 pc = some i := h
theorem nl_86 {a : Nat} (h : Nat.ble (a + 1) 1 = true) : a < pg.2.1 86 := Nat.le_of_ble_eq_true h
theorem kd_86 : pg.2.2.1 86 = 1 := rfl
theorem cl_86 {ix : Nat} {q : Nat × Nat × Nat × Nat} (h : xm_as ix kl_9 = some q) : pg.2.2.2 86 ix = some q := h
theorem fo_86 {ix : Nat} {q : Nat × Nat × Nat} (h : xm_as ix kf_9 = some q) : (pg.1 86).2.2.1 ix = some q := h
theorem ko_86 {ix : Nat} {q : xm_V} (h : xm_as ix kc_9 = some q) : (pg.1 86).2.1 ix = some q := h
theorem so_86 {ix : Nat} {q : Nat} (h : xm_as ix ks_9 = some q) : (pg.1 86).2.2.2.2.1 ix = some q := h
theorem no_86 {ix : Nat} {q : Nat × List xm_F} (h : xm_as ix kn_9 = some q) : (pg.1 86).2.2.2.1 ix = some q := h
theorem xo_86 {ix q : Nat} (h : (ym_86).2.2.2.2.2 ix = q) : (pg.1 86).2.2.2.2.2 ix = q := h
theorem in_87 {pc : Nat} {i : Jvm.ClassFile.Instr × Nat} (h : xm_tb pc tb_87 = some i) : (pg.1 87).1 pc = some i := h
theorem nl_87 {a : Nat} (h : Nat.ble (a + 1) 16 = true) : a < pg.2.1 87 := Nat.le_of_ble_eq_true h
theorem kd_87 : pg.2.2.1 87 = 1 := rfl
theorem cl_87 {ix : Nat} {q : Nat × Nat × Nat × Nat} (h : xm_as ix kl_9 = some q) : pg.2.2.2 87 ix = some q := h
theorem fo_87 {ix : Nat} {q : Nat × Nat × Nat} (h : xm_as ix kf_9 = some q) : (pg.1 87).2.2.1 ix = some q := h
theorem ko_87 {ix : Nat} {q : xm_V} (h : xm_as ix kc_9 = some q) : (pg.1 87).2.1 ix = some q := h
theorem so_87 {ix : Nat} {q : Nat} (h : xm_as ix ks_9 = some q) : (pg.1 87).2.2.2.2.1 ix = some q := h
theorem no_87 {ix : Nat} {q : Nat × List xm_F} (h : xm_as ix kn_9 = some q) : (pg.1 87).2.2.2.1 ix = some q := h
theorem xo_87 {ix q : Nat} (h : (ym_87).2.2.2.2.2 ix = q) : (pg.1 87).2.2.2.2.2 ix = q := h
theorem in_88 {pc : Nat} {i : Jvm.ClassFile.Instr × Nat} (h : xm_tb pc tb_88 = some i) : (pg.1 88).1 pc = some i := h
theorem nl_88 {a : Nat} (h : Nat.ble (a + 1) 7 = true) : a < pg.2.1 88 := Nat.le_of_ble_eq_true h
theorem kd_88 : pg.2.2.1 88 = 1 := rfl
theorem cl_88 {ix : Nat} {q : Nat × Nat × Nat × Nat} (h : xm_as ix kl_9 = some q) : pg.2.2.2 88 ix = some q := h
theorem fo_88 {ix : Nat} {q : Nat × Nat × Nat} (h : xm_as ix kf_9 = some q) : (pg.1 88).2.2.1 ix = some q := h
theorem ko_88 {ix : Nat} {q : xm_V} (h : xm_as ix kc_9 = some q) : (pg.1 88).2.1 ix = some q := h
theorem so_88 {ix : Nat} {q : Nat} (h : xm_as ix ks_9 = some q) : (pg.1 88).2.2.2.2.1 ix = some q := h
theorem no_88 {ix : Nat} {q : Nat × List xm_F} (h : xm_as ix kn_9 = some q) : (pg.1 88).2.2.2.1 ix = some q := h
theorem xo_88 {ix q : Nat} (h : (ym_88).2.2.2.2.2 ix = q) : (pg.1 88).2.2.2.2.2 ix = q := h
theorem in_89 {pc : Nat} {i : Jvm.ClassFile.Instr × Nat} (h : xm_tb pc tb_89 = some i) : (pg.1 89).1 pc = some i := h
theorem nl_89 {a : Nat} (h : Nat.ble (a + 1) 4 = true) : a < pg.2.1 89 := Nat.le_of_ble_eq_true h
theorem kd_89 : pg.2.2.1 89 = 1 := rfl
theorem cl_89 {ix : Nat} {q : Nat × Nat × Nat × Nat} (h : xm_as ix kl_9 = some q) : pg.2.2.2 89 ix = some q := h
theorem fo_89 {ix : Nat} {q : Nat × Nat × Nat} (h : xm_as ix kf_9 = some q) : (pg.1 89).2.2.1 ix = some q := h
theorem ko_89 {ix : Nat} {q : xm_V} (h : xm_as ix kc_9 = some q) : (pg.1 89).2.1 ix = some q := h
theorem so_89 {ix : Nat} {q : Nat} (h : xm_as ix ks_9 = some q) : (pg.1 89).2.2.2.2.1 ix = some q := h
theorem no_89 {ix : Nat} {q : Nat × List xm_F} (h : xm_as ix kn_9 = some q) : (pg.1 89).2.2.2.1 ix = some q := h
theorem xo_89 {ix q : Nat} (h : (ym_89).2.2.2.2.2 ix = q) : (pg.1 89).2.2.2.2.2 ix = q := h
theorem in_90 {pc : Nat} {i : Jvm.ClassFile.Instr × Nat} (h : xm_tb pc tb_90 = some i) : (pg.1 90).1 pc = some i := h
theorem nl_90 {a : Nat} (h : Nat.ble (a + 1) 8 = true) : a < pg.2.1 90 := Nat.le_of_ble_eq_true h
theorem kd_90 : pg.2.2.1 90 = 1 := rfl
theorem cl_90 {ix : Nat} {q : Nat × Nat × Nat × Nat} (h : xm_as ix kl_9 = some q) : pg.2.2.2 90 ix = some q := h
theorem fo_90 {ix : Nat} {q : Nat × Nat × Nat} (h : xm_as ix kf_9 = some q) : (pg.1 90).2.2.1 ix = some q := h
theorem ko_90 {ix : Nat} {q : xm_V} (h : xm_as ix kc_9 = some q) : (pg.1 90).2.1 ix = some q := h
theorem so_90 {ix : Nat} {q : Nat} (h : xm_as ix ks_9 = some q) : (pg.1 90).2.2.2.2.1 ix = some q := h
theorem no_90 {ix : Nat} {q : Nat × List xm_F} (h : xm_as ix kn_9 = some q) : (pg.1 90).2.2.2.1 ix = some q := h
theorem xo_90 {ix q : Nat} (h : (ym_90).2.2.2.2.2 ix = q) : (pg.1 90).2.2.2.2.2 ix = q := h
theorem in_91 {pc : Nat} {i : Jvm.ClassFile.Instr × Nat} (h : xm_tb pc tb_91 = some i) : (pg.1 91).1 pc = some i := h
theorem nl_91 {a : Nat} (h : Nat.ble (a + 1) 3 = true) : a < pg.2.1 91 := Nat.le_of_ble_eq_true h
theorem kd_91 : pg.2.2.1 91 = 1 := rfl
theorem cl_91 {ix : Nat} {q : Nat × Nat × Nat × Nat} (h : xm_as ix kl_9 = some q) : pg.2.2.2 91 ix = some q := h
theorem fo_91 {ix : Nat} {q : Nat × Nat × Nat} (h : xm_as ix kf_9 = some q) : (pg.1 91).2.2.1 ix = some q := h
theorem ko_91 {ix : Nat} {q : xm_V} (h : xm_as ix kc_9 = some q) : (pg.1 91).2.1 ix = some q := h
theorem so_91 {ix : Nat} {q : Nat} (h : xm_as ix ks_9 = some q) : (pg.1 91).2.2.2.2.1 ix = some q := h
theorem no_91 {ix : Nat} {q : Nat × List xm_F} (h : xm_as ix kn_9 = some q) : (pg.1 91).2.2.2.1 ix = some q := h
theorem xo_91 {ix q : Nat} (h : (ym_91).2.2.2.2.2 ix = q) : (pg.1 91).2.2.2.2.2 ix = q := h
theorem in_92 {pc : Nat} {i : Jvm.ClassFile.Instr × Nat} (h : xm_tb pc tb_92 = some i) : (pg.1 92).1 pc = some i := h
theorem nl_92 {a : Nat} (h : Nat.ble (a + 1) 4 = true) : a < pg.2.1 92 := Nat.le_of_ble_eq_true h
theorem kd_92 : pg.2.2.1 92 = 0 := rfl
theorem cl_92 {ix : Nat} {q : Nat × Nat × Nat × Nat} (h : xm_as ix kl_9 = some q) : pg.2.2.2 92 ix = some q := h
theorem fo_92 {ix : Nat} {q : Nat × Nat × Nat} (h : xm_as ix kf_9 = some q) : (pg.1 92).2.2.1 ix = some q := h
theorem ko_92 {ix : Nat} {q : xm_V} (h : xm_as ix kc_9 = some q) : (pg.1 92).2.1 ix = some q := h
theorem so_92 {ix : Nat} {q : Nat} (h : xm_as ix ks_9 = some q) : (pg.1 92).2.2.2.2.1 ix = some q := h
theorem no_92 {ix : Nat} {q : Nat × List xm_F} (h : xm_as ix kn_9 = some q) : (pg.1 92).2.2.2.1 ix = some q := h
theorem xo_92 {ix q : Nat} (h : (ym_92).2.2.2.2.2 ix = q) : (pg.1 92).2.2.2.2.2 ix = q := h
theorem in_93 {pc : Nat} {i : Jvm.ClassFile.Instr × Nat} (h : xm_tb pc tb_93 = some i) : (pg.1 93).1 pc = some i := h
theorem nl_93 {a : Nat} (h : Nat.ble (a + 1) 5 = true) : a < pg.2.1 93 := Nat.le_of_ble_eq_true h
theorem kd_93 : pg.2.2.1 93 = 0 := rfl
theorem cl_93 {ix : Nat} {q : Nat × Nat × Nat × Nat} (h : xm_as ix kl_9 = some q) : pg.2.2.2 93 ix = some q := h
theorem fo_93 {ix : Nat} {q : Nat × Nat × Nat} (h : xm_as ix kf_9 = some q) : (pg.1 93).2.2.1 ix = some q := h
theorem ko_93 {ix : Nat} {q : xm_V} (h : xm_as ix kc_9 = some q) : (pg.1 93).2.1 ix = some q := h
theorem so_93 {ix : Nat} {q : Nat} (h : xm_as ix ks_9 = some q) : (pg.1 93).2.2.2.2.1 ix = some q := h
theorem no_93 {ix : Nat} {q : Nat × List xm_F} (h : xm_as ix kn_9 = some q) : (pg.1 93).2.2.2.1 ix = some q := h
theorem xo_93 {ix q : Nat} (h : (ym_93).2.2.2.2.2 ix = q) : (pg.1 93).2.2.2.2.2 ix = q := h
theorem in_94 {pc : Nat} {i : Jvm.ClassFile.Instr × Nat} (h : xm_tb pc tb_94 = some i) : (pg.1 94).1 pc = some i := h
theorem nl_94 {a : Nat} (h : Nat.ble (a + 1) 5 = true) : a < pg.2.1 94 := Nat.le_of_ble_eq_true h
theorem kd_94 : pg.2.2.1 94 = 0 := rfl
theorem cl_94 {ix : Nat} {q : Nat × Nat × Nat × Nat} (h : xm_as ix kl_9 = some q) : pg.2.2.2 94 ix = some q := h
theorem fo_94 {ix : Nat} {q : Nat × Nat × Nat} (h : xm_as ix kf_9 = some q) : (pg.1 94).2.2.1 ix = some q := h
theorem ko_94 {ix : Nat} {q : xm_V} (h : xm_as ix kc_9 = some q) : (pg.1 94).2.1 ix = some q := h
theorem so_94 {ix : Nat} {q : Nat} (h : xm_as ix ks_9 = some q) : (pg.1 94).2.2.2.2.1 ix = some q := h
theorem no_94 {ix : Nat} {q : Nat × List xm_F} (h : xm_as ix kn_9 = some q) : (pg.1 94).2.2.2.1 ix = some q := h
theorem xo_94 {ix q : Nat} (h : (ym_94).2.2.2.2.2 ix = q) : (pg.1 94).2.2.2.2.2 ix = q := h
theorem in_95 {pc : Nat} {i : Jvm.ClassFile.Instr × Nat} (h : xm_tb pc tb_95 = some i) : (pg.1 95).1 pc = some i := h
theorem nl_95 {a : Nat} (h : Nat.ble (a + 1) 7 = true) : a < pg.2.1 95 := Nat.le_of_ble_eq_true h
theorem kd_95 : pg.2.2.1 95 = 0 := rfl
theorem cl_95 {ix : Nat} {q : Nat × Nat × Nat × Nat} (h : xm_as ix kl_9 = some q) : pg.2.2.2 95 ix = some q := h
theorem fo_95 {ix : Nat} {q : Nat × Nat × Nat} (h : xm_as ix kf_9 = some q) : (pg.1 95).2.2.1 ix = some q := h
theorem ko_95 {ix : Nat} {q : xm_V} (h : xm_as ix kc_9 = some q) : (pg.1 95).2.1 ix = some q := h
theorem so_95 {ix : Nat} {q : Nat} (h : xm_as ix ks_9 = some q) : (pg.1 95).2.2.2.2.1 ix = some q := h
theorem no_95 {ix : Nat} {q : Nat × List xm_F} (h : xm_as ix kn_9 = some q) : (pg.1 95).2.2.2.1 ix = some q := h
theorem xo_95 {ix q : Nat} (h : (ym_95).2.2.2.2.2 ix = q) : (pg.1 95).2.2.2.2.2 ix = q := h
theorem in_96 {pc : Nat} {i : Jvm.ClassFile.Instr × Nat} (h : xm_tb pc tb_96 = some i) : (pg.1 96).1 pc = some i := h
theorem nl_96 {a : Nat} (h : Nat.ble (a + 1) 6 = true) : a < pg.2.1 96 := Nat.le_of_ble_eq_true h
theorem kd_96 : pg.2.2.1 96 = 0 := rfl
theorem cl_96 {ix : Nat} {q : Nat × Nat × Nat × Nat} (h : xm_as ix kl_9 = some q) : pg.2.2.2 96 ix = some q := h
theorem fo_96 {ix : Nat} {q : Nat × Nat × Nat} (h : xm_as ix kf_9 = some q) : (pg.1 96).2.2.1 ix = some q := h
theorem ko_96 {ix : Nat} {q : xm_V} (h : xm_as ix kc_9 = some q) : (pg.1 96).2.1 ix = some q := h
theorem so_96 {ix : Nat} {q : Nat} (h : xm_as ix ks_9 = some q) : (pg.1 96).2.2.2.2.1 ix = some q := h
theorem no_96 {ix : Nat} {q : Nat × List xm_F} (h : xm_as ix kn_9 = some q) : (pg.1 96).2.2.2.1 ix = some q := h
theorem xo_96 {ix q : Nat} (h : (ym_96).2.2.2.2.2 ix = q) : (pg.1 96).2.2.2.2.2 ix = q := h
theorem in_97 {pc : Nat} {i : Jvm.ClassFile.Instr × Nat} (h : xm_tb pc tb_97 = some i) : (pg.1 97).1 pc = some i := h
theorem nl_97 {a : Nat} (h : Nat.ble (a + 1) 2 = true) : a < pg.2.1 97 := Nat.le_of_ble_eq_true h
theorem kd_97 : pg.2.2.1 97 = 1 := rfl
theorem cl_97 {ix : Nat} {q : Nat × Nat × Nat × Nat} (h : xm_as ix kl_9 = some q) : pg.2.2.2 97 ix = some q := h
theorem fo_97 {ix : Nat} {q : Nat × Nat × Nat} (h : xm_as ix kf_9 = some q) : (pg.1 97).2.2.1 ix = some q := h
theorem ko_97 {ix : Nat} {q : xm_V} (h : xm_as ix kc_9 = some q) : (pg.1 97).2.1 ix = some q := h
theorem so_97 {ix : Nat} {q : Nat} (h : xm_as ix ks_9 = some q) : (pg.1 97).2.2.2.2.1 ix = some q := h
theorem no_97 {ix : Nat} {q : Nat × List xm_F} (h : xm_as ix kn_9 = some q) : (pg.1 97).2.2.2.1 ix = some q := h
theorem xo_97 {ix q : Nat} (h : (ym_97).2.2.2.2.2 ix = q) : (pg.1 97).2.2.2.2.2 ix = q := h
theorem in_98 {pc : Nat} {i : Jvm.ClassFile.Instr × Nat} (h : xm_tb pc tb_98 = some i) : (pg.1 98).1 pc = some i := h
theorem nl_98 {a : Nat} (h : Nat.ble (a + 1) 5 = true) : a < pg.2.1 98 := Nat.le_of_ble_eq_true h
theorem kd_98 : pg.2.2.1 98 = 4 := rfl
theorem cl_98 {ix : Nat} {q : Nat × Nat × Nat × Nat} (h : xm_as ix kl_9 = some q) : pg.2.2.2 98 ix = some q := h
theorem fo_98 {ix : Nat} {q : Nat × Nat × Nat} (h : xm_as ix kf_9 = some q) : (pg.1 98).2.2.1 ix = some q := h
theorem ko_98 {ix : Nat} {q : xm_V} (h : xm_as ix kc_9 = some q) : (pg.1 98).2.1 ix = some q := h
theorem so_98 {ix : Nat} {q : Nat} (h : xm_as ix ks_9 = some q) : (pg.1 98).2.2.2.2.1 ix = some q := h
theorem no_98 {ix : Nat} {q : Nat × List xm_F} (h : xm_as ix kn_9 = some q) : (pg.1 98).2.2.2.1 ix = some q := h
theorem xo_98 {ix q : Nat} (h : (ym_98).2.2.2.2.2 ix = q) : (pg.1 98).2.2.2.2.2 ix = q := h
theorem in_99 {pc : Nat} {i : Jvm.ClassFile.Instr × Nat} (h : xm_tb pc tb_99 = some i) : (pg.1 99).1 pc = some i := h
theorem nl_99 {a : Nat} (h : Nat.ble (a + 1) 4 = true) : a < pg.2.1 99 := Nat.le_of_ble_eq_true h
theorem kd_99 : pg.2.2.1 99 = 0 := rfl
theorem cl_99 {ix : Nat} {q : Nat × Nat × Nat × Nat} (h : xm_as ix kl_9 = some q) : pg.2.2.2 99 ix = some q := h
theorem fo_99 {ix : Nat} {q : Nat × Nat × Nat} (h : xm_as ix kf_9 = some q) : (pg.1 99).2.2.1 ix = some q := h
theorem ko_99 {ix : Nat} {q : xm_V} (h : xm_as ix kc_9 = some q) : (pg.1 99).2.1 ix = some q := h
theorem so_99 {ix : Nat} {q : Nat} (h : xm_as ix ks_9 = some q) : (pg.1 99).2.2.2.2.1 ix = some q := h
theorem no_99 {ix : Nat} {q : Nat × List xm_F} (h : xm_as ix kn_9 = some q) : (pg.1 99).2.2.2.1 ix = some q := h
theorem xo_99 {ix q : Nat} (h : (ym_99).2.2.2.2.2 ix = q) : (pg.1 99).2.2.2.2.2 ix = q := h
theorem in_100 {pc : Nat} {i : Jvm.ClassFile.Instr × Nat} (h : xm_tb pc tb_100 = some i) : (pg.1 100).1 pc = some i := h
theorem nl_100 {a : Nat} (h : Nat.ble (a + 1) 4 = true) : a < pg.2.1 100 := Nat.le_of_ble_eq_true h
theorem kd_100 : pg.2.2.1 100 = 1 := rfl
theorem cl_100 {ix : Nat} {q : Nat × Nat × Nat × Nat} (h : xm_as ix kl_9 = some q) : pg.2.2.2 100 ix = some q := h
theorem fo_100 {ix : Nat} {q : Nat × Nat × Nat} (h : xm_as ix kf_9 = some q) : (pg.1 100).2.2.1 ix = some q := h
theorem ko_100 {ix : Nat} {q : xm_V} (h : xm_as ix kc_9 = some q) : (pg.1 100).2.1 ix = some q := h
theorem so_100 {ix : Nat} {q : Nat} (h : xm_as ix ks_9 = some q) : (pg.1 100).2.2.2.2.1 ix = some q := h
theorem no_100 {ix : Nat} {q : Nat × List xm_F} (h : xm_as ix kn_9 = some q) : (pg.1 100).2.2.2.1 ix = some q := h
theorem xo_100 {ix q : Nat} (h : (ym_100).2.2.2.2.2 ix = q) : (pg.1 100).2.2.2.2.2 ix = q := h
theorem in_101 {pc : Nat} {i : Jvm.ClassFile.Instr × Nat} (h : xm_tb pc tb_101 = some i) : (pg.1 101).1 pc = some i := h
theorem nl_101 {a : Nat} (h : Nat.ble (a + 1) 6 = true) : a < pg.2.1 101 := Nat.le_of_ble_eq_true h
theorem kd_101 : pg.2.2.1 101 = 4 := rfl
theorem cl_101 {ix : Nat} {q : Nat × Nat × Nat × Nat} (h : xm_as ix kl_9 = some q) : pg.2.2.2 101 ix = some q := h
theorem fo_101 {ix : Nat} {q : Nat × Nat × Nat} (h : xm_as ix kf_9 = some q) : (pg.1 101).2.2.1 ix = some q := h
theorem ko_101 {ix : Nat} {q : xm_V} (h : xm_as ix kc_9 = some q) : (pg.1 101).2.1 ix = some q := h
theorem so_101 {ix : Nat} {q : Nat} (h : xm_as ix ks_9 = some q) : (pg.1 101).2.2.2.2.1 ix = some q := h
theorem no_101 {ix : Nat} {q : Nat × List xm_F} (h : xm_as ix kn_9 = some q) : (pg.1 101).2.2.2.1 ix = some q := h
theorem xo_101 {ix q : Nat} (h : (ym_101).2.2.2.2.2 ix = q) : (pg.1 101).2.2.2.2.2 ix = q := h
theorem in_102 {pc : Nat} {i : Jvm.ClassFile.Instr × Nat} (h : xm_tb pc tb_102 = some i) : (pg.1 102).1 pc = some i := h
theorem nl_102 {a : Nat} (h : Nat.ble (a + 1) 5 = true) : a < pg.2.1 102 := Nat.le_of_ble_eq_true h
theorem kd_102 : pg.2.2.1 102 = 0 := rfl
theorem cl_102 {ix : Nat} {q : Nat × Nat × Nat × Nat} (h : xm_as ix kl_9 = some q) : pg.2.2.2 102 ix = some q := h
theorem fo_102 {ix : Nat} {q : Nat × Nat × Nat} (h : xm_as ix kf_9 = some q) : (pg.1 102).2.2.1 ix = some q := h
theorem ko_102 {ix : Nat} {q : xm_V} (h : xm_as ix kc_9 = some q) : (pg.1 102).2.1 ix = some q := h
theorem so_102 {ix : Nat} {q : Nat} (h : xm_as ix ks_9 = some q) : (pg.1 102).2.2.2.2.1 ix = some q := h
theorem no_102 {ix : Nat} {q : Nat × List xm_F} (h : xm_as ix kn_9 = some q) : (pg.1 102).2.2.2.1 ix = some q := h
theorem xo_102 {ix q : Nat} (h : (ym_102).2.2.2.2.2 ix = q) : (pg.1 102).2.2.2.2.2 ix = q := h
theorem in_103 {pc : Nat} {i : Jvm.ClassFile.Instr × Nat} (h : xm_tb pc tb_103 = some i) : (pg.1 103).1 pc = some i := h
theorem nl_103 {a : Nat} (h : Nat.ble (a + 1) 11 = true) : a < pg.2.1 103 := Nat.le_of_ble_eq_true h
theorem kd_103 : pg.2.2.1 103 = 0 := rfl
theorem cl_103 {ix : Nat} {q : Nat × Nat × Nat × Nat} (h : xm_as ix kl_9 = some q) : pg.2.2.2 103 ix = some q := h
theorem fo_103 {ix : Nat} {q : Nat × Nat × Nat} (h : xm_as ix kf_9 = some q) : (pg.1 103).2.2.1 ix = some q := h
theorem ko_103 {ix : Nat} {q : xm_V} (h : xm_as ix kc_9 = some q) : (pg.1 103).2.1 ix = some q := h
theorem so_103 {ix : Nat} {q : Nat} (h : xm_as ix ks_9 = some q) : (pg.1 103).2.2.2.2.1 ix = some q := h
theorem no_103 {ix : Nat} {q : Nat × List xm_F} (h : xm_as ix kn_9 = some q) : (pg.1 103).2.2.2.1 ix = some q := h
theorem xo_103 {ix q : Nat} (h : (ym_103).2.2.2.2.2 ix = q) : (pg.1 103).2.2.2.2.2 ix = q := h
theorem in_104 {pc : Nat} {i : Jvm.ClassFile.Instr × Nat} (h : xm_tb pc tb_104 = some i) : (pg.1 104).1 pc = some i := h
theorem nl_104 {a : Nat} (h : Nat.ble (a + 1) 4 = true) : a < pg.2.1 104 := Nat.le_of_ble_eq_true h
theorem kd_104 : pg.2.2.1 104 = 1 := rfl
theorem cl_104 {ix : Nat} {q : Nat × Nat × Nat × Nat} (h : xm_as ix kl_9 = some q) : pg.2.2.2 104 ix = some q := h
theorem fo_104 {ix : Nat} {q : Nat × Nat × Nat} (h : xm_as ix kf_9 = some q) : (pg.1 104).2.2.1 ix = some q := h
theorem ko_104 {ix : Nat} {q : xm_V} (h : xm_as ix kc_9 = some q) : (pg.1 104).2.1 ix = some q := h
theorem so_104 {ix : Nat} {q : Nat} (h : xm_as ix ks_9 = some q) : (pg.1 104).2.2.2.2.1 ix = some q := h
theorem no_104 {ix : Nat} {q : Nat × List xm_F} (h : xm_as ix kn_9 = some q) : (pg.1 104).2.2.2.1 ix = some q := h
theorem xo_104 {ix q : Nat} (h : (ym_104).2.2.2.2.2 ix = q) : (pg.1 104).2.2.2.2.2 ix = q := h
theorem in_105 {pc : Nat} {i : Jvm.ClassFile.Instr × Nat} (h : xm_tb pc tb_105 = some i) : (pg.1 105).1 pc = some i := h
theorem nl_105 {a : Nat} (h : Nat.ble (a + 1) 7 = true) : a < pg.2.1 105 := Nat.le_of_ble_eq_true h
theorem kd_105 : pg.2.2.1 105 = 4 := rfl
theorem cl_105 {ix : Nat} {q : Nat × Nat × Nat × Nat} (h : xm_as ix kl_9 = some q) : pg.2.2.2 105 ix = some q := h
theorem fo_105 {ix : Nat} {q : Nat × Nat × Nat} (h : xm_as ix kf_9 = some q) : (pg.1 105).2.2.1 ix = some q := h
theorem ko_105 {ix : Nat} {q : xm_V} (h : xm_as ix kc_9 = some q) : (pg.1 105).2.1 ix = some q := h
theorem so_105 {ix : Nat} {q : Nat} (h : xm_as ix ks_9 = some q) : (pg.1 105).2.2.2.2.1 ix = some q := h
theorem no_105 {ix : Nat} {q : Nat × List xm_F} (h : xm_as ix kn_9 = some q) : (pg.1 105).2.2.2.1 ix = some q := h
theorem xo_105 {ix q : Nat} (h : (ym_105).2.2.2.2.2 ix = q) : (pg.1 105).2.2.2.2.2 ix = q := h
theorem in_106 {pc : Nat} {i : Jvm.ClassFile.Instr × Nat} (h : xm_tb pc tb_106 = some i) : (pg.1 106).1 pc = some i := h
theorem nl_106 {a : Nat} (h : Nat.ble (a + 1) 4 = true) : a < pg.2.1 106 := Nat.le_of_ble_eq_true h
theorem kd_106 : pg.2.2.1 106 = 1 := rfl
theorem cl_106 {ix : Nat} {q : Nat × Nat × Nat × Nat} (h : xm_as ix kl_9 = some q) : pg.2.2.2 106 ix = some q := h
theorem fo_106 {ix : Nat} {q : Nat × Nat × Nat} (h : xm_as ix kf_9 = some q) : (pg.1 106).2.2.1 ix = some q := h
theorem ko_106 {ix : Nat} {q : xm_V} (h : xm_as ix kc_9 = some q) : (pg.1 106).2.1 ix = some q := h
theorem so_106 {ix : Nat} {q : Nat} (h : xm_as ix ks_9 = some q) : (pg.1 106).2.2.2.2.1 ix = some q := h
theorem no_106 {ix : Nat} {q : Nat × List xm_F} (h : xm_as ix kn_9 = some q) : (pg.1 106).2.2.2.1 ix = some q := h
theorem xo_106 {ix q : Nat} (h : (ym_106).2.2.2.2.2 ix = q) : (pg.1 106).2.2.2.2.2 ix = q := h
theorem in_107 {pc : Nat} {i : Jvm.ClassFile.Instr × Nat} (h : xm_tb pc tb_107 = some i) : (pg.1 107).1 pc = some i := h
theorem nl_107 {a : Nat} (h : Nat.ble (a + 1) 14 = true) : a < pg.2.1 107 := Nat.le_of_ble_eq_true h
theorem kd_107 : pg.2.2.1 107 = 2 := rfl
theorem cl_107 {ix : Nat} {q : Nat × Nat × Nat × Nat} (h : xm_as ix kl_9 = some q) : pg.2.2.2 107 ix = some q := h
theorem fo_107 {ix : Nat} {q : Nat × Nat × Nat} (h : xm_as ix kf_9 = some q) : (pg.1 107).2.2.1 ix = some q := h
theorem ko_107 {ix : Nat} {q : xm_V} (h : xm_as ix kc_9 = some q) : (pg.1 107).2.1 ix = some q := h
theorem so_107 {ix : Nat} {q : Nat} (h : xm_as ix ks_9 = some q) : (pg.1 107).2.2.2.2.1 ix = some q := h
theorem no_107 {ix : Nat} {q : Nat × List xm_F} (h : xm_as ix kn_9 = some q) : (pg.1 107).2.2.2.1 ix = some q := h
theorem xo_107 {ix q : Nat} (h : (ym_107).2.2.2.2.2 ix = q) : (pg.1 107).2.2.2.2.2 ix = q := h
theorem in_108 {pc : Nat} {i : Jvm.ClassFile.Instr × Nat} (h : xm_tb pc tb_108 = some i) : (pg.1 108).1 pc = some i := h
theorem nl_108 {a : Nat} (h : Nat.ble (a + 1) 3 = true) : a < pg.2.1 108 := Nat.le_of_ble_eq_true h
theorem kd_108 : pg.2.2.1 108 = 1 := rfl
theorem cl_108 {ix : Nat} {q : Nat × Nat × Nat × Nat} (h : xm_as ix kl_9 = some q) : pg.2.2.2 108 ix = some q := h
theorem fo_108 {ix : Nat} {q : Nat × Nat × Nat} (h : xm_as ix kf_9 = some q) : (pg.1 108).2.2.1 ix = some q := h
theorem ko_108 {ix : Nat} {q : xm_V} (h : xm_as ix kc_9 = some q) : (pg.1 108).2.1 ix = some q := h
theorem so_108 {ix : Nat} {q : Nat} (h : xm_as ix ks_9 = some q) : (pg.1 108).2.2.2.2.1 ix = some q := h
theorem no_108 {ix : Nat} {q : Nat × List xm_F} (h : xm_as ix kn_9 = some q) : (pg.1 108).2.2.2.1 ix = some q := h
theorem xo_108 {ix q : Nat} (h : (ym_108).2.2.2.2.2 ix = q) : (pg.1 108).2.2.2.2.2 ix = q := h
theorem in_109 {pc : Nat} {i : Jvm.ClassFile.Instr × Nat} (h : xm_tb pc tb_109 = some i) : (pg.1 109).1 pc = some i := h
theorem nl_109 {a : Nat} (h : Nat.ble (a + 1) 4 = true) : a < pg.2.1 109 := Nat.le_of_ble_eq_true h
theorem kd_109 : pg.2.2.1 109 = 0 := rfl
theorem cl_109 {ix : Nat} {q : Nat × Nat × Nat × Nat} (h : xm_as ix kl_9 = some q) : pg.2.2.2 109 ix = some q := h
theorem fo_109 {ix : Nat} {q : Nat × Nat × Nat} (h : xm_as ix kf_9 = some q) : (pg.1 109).2.2.1 ix = some q := h
theorem ko_109 {ix : Nat} {q : xm_V} (h : xm_as ix kc_9 = some q) : (pg.1 109).2.1 ix = some q := h
theorem so_109 {ix : Nat} {q : Nat} (h : xm_as ix ks_9 = some q) : (pg.1 109).2.2.2.2.1 ix = some q := h
theorem no_109 {ix : Nat} {q : Nat × List xm_F} (h : xm_as ix kn_9 = some q) : (pg.1 109).2.2.2.1 ix = some q := h
theorem xo_109 {ix q : Nat} (h : (ym_109).2.2.2.2.2 ix = q) : (pg.1 109).2.2.2.2.2 ix = q := h
theorem in_110 {pc : Nat} {i : Jvm.ClassFile.Instr × Nat} (h : xm_tb pc tb_110 = some i) : (pg.1 110).1 pc = some i := h
theorem nl_110 {a : Nat} (h : Nat.ble (a + 1) 5 = true) : a < pg.2.1 110 := Nat.le_of_ble_eq_true h
theorem kd_110 : pg.2.2.1 110 = 4 := rfl
theorem cl_110 {ix : Nat} {q : Nat × Nat × Nat × Nat} (h : xm_as ix kl_9 = some q) : pg.2.2.2 110 ix = some q := h
theorem fo_110 {ix : Nat} {q : Nat × Nat × Nat} (h : xm_as ix kf_9 = some q) : (pg.1 110).2.2.1 ix = some q := h
theorem ko_110 {ix : Nat} {q : xm_V} (h : xm_as ix kc_9 = some q) : (pg.1 110).2.1 ix = some q := h
theorem so_110 {ix : Nat} {q : Nat} (h : xm_as ix ks_9 = some q) : (pg.1 110).2.2.2.2.1 ix = some q := h
theorem no_110 {ix : Nat} {q : Nat × List xm_F} (h : xm_as ix kn_9 = some q) : (pg.1 110).2.2.2.1 ix = some q := h
theorem xo_110 {ix q : Nat} (h : (ym_110).2.2.2.2.2 ix = q) : (pg.1 110).2.2.2.2.2 ix = q := h
theorem in_111 {pc : Nat} {i : Jvm.ClassFile.Instr × Nat} (h : xm_tb pc tb_111 = some i) : (pg.1 111).1 pc = some i := h
theorem nl_111 {a : Nat} (h : Nat.ble (a + 1) 6 = true) : a < pg.2.1 111 := Nat.le_of_ble_eq_true h
theorem kd_111 : pg.2.2.1 111 = 1 := rfl
theorem cl_111 {ix : Nat} {q : Nat × Nat × Nat × Nat} (h : xm_as ix kl_9 = some q) : pg.2.2.2 111 ix = some q := h
theorem fo_111 {ix : Nat} {q : Nat × Nat × Nat} (h : xm_as ix kf_9 = some q) : (pg.1 111).2.2.1 ix = some q := h
theorem ko_111 {ix : Nat} {q : xm_V} (h : xm_as ix kc_9 = some q) : (pg.1 111).2.1 ix = some q := h
theorem so_111 {ix : Nat} {q : Nat} (h : xm_as ix ks_9 = some q) : (pg.1 111).2.2.2.2.1 ix = some q := h
theorem no_111 {ix : Nat} {q : Nat × List xm_F} (h : xm_as ix kn_9 = some q) : (pg.1 111).2.2.2.1 ix = some q := h
theorem xo_111 {ix q : Nat} (h : (ym_111).2.2.2.2.2 ix = q) : (pg.1 111).2.2.2.2.2 ix = q := h
theorem in_112 {pc : Nat} {i : Jvm.ClassFile.Instr × Nat} (h : xm_tb pc tb_112 = some i) : (pg.1 112).1 pc = some i := h
theorem nl_112 {a : Nat} (h : Nat.ble (a + 1) 2 = true) : a < pg.2.1 112 := Nat.le_of_ble_eq_true h
theorem kd_112 : pg.2.2.1 112 = 4 := rfl
theorem cl_112 {ix : Nat} {q : Nat × Nat × Nat × Nat} (h : xm_as ix kl_9 = some q) : pg.2.2.2 112 ix = some q := h
theorem fo_112 {ix : Nat} {q : Nat × Nat × Nat} (h : xm_as ix kf_9 = some q) : (pg.1 112).2.2.1 ix = some q := h
theorem ko_112 {ix : Nat} {q : xm_V} (h : xm_as ix kc_9 = some q) : (pg.1 112).2.1 ix = some q := h
theorem so_112 {ix : Nat} {q : Nat} (h : xm_as ix ks_9 = some q) : (pg.1 112).2.2.2.2.1 ix = some q := h
theorem no_112 {ix : Nat} {q : Nat × List xm_F} (h : xm_as ix kn_9 = some q) : (pg.1 112).2.2.2.1 ix = some q := h
theorem xo_112 {ix q : Nat} (h : (ym_112).2.2.2.2.2 ix = q) : (pg.1 112).2.2.2.2.2 ix = q := h
theorem in_113 {pc : Nat} {i : Jvm.ClassFile.Instr × Nat} (h : xm_tb pc tb_113 = some i) : (pg.1 113).1 pc = some i := h
theorem nl_113 {a : Nat} (h : Nat.ble (a + 1) 5 = true) : a < pg.2.1 113 := Nat.le_of_ble_eq_true h
theorem kd_113 : pg.2.2.1 113 = 1 := rfl
theorem cl_113 {ix : Nat} {q : Nat × Nat × Nat × Nat} (h : xm_as ix kl_9 = some q) : pg.2.2.2 113 ix = some q := h
theorem fo_113 {ix : Nat} {q : Nat × Nat × Nat} (h : xm_as ix kf_9 = some q) : (pg.1 113).2.2.1 ix = some q := h
theorem ko_113 {ix : Nat} {q : xm_V} (h : xm_as ix kc_9 = some q) : (pg.1 113).2.1 ix = some q := h
theorem so_113 {ix : Nat} {q : Nat} (h : xm_as ix ks_9 = some q) : (pg.1 113).2.2.2.2.1 ix = some q := h
theorem no_113 {ix : Nat} {q : Nat × List xm_F} (h : xm_as ix kn_9 = some q) : (pg.1 113).2.2.2.1 ix = some q := h
theorem xo_113 {ix q : Nat} (h : (ym_113).2.2.2.2.2 ix = q) : (pg.1 113).2.2.2.2.2 ix = q := h
theorem in_114 {pc : Nat} {i : Jvm.ClassFile.Instr × Nat} (h : xm_tb pc tb_114 = some i) : (pg.1 114).1 pc = some i := h
theorem nl_114 {a : Nat} (h : Nat.ble (a + 1) 7 = true) : a < pg.2.1 114 := Nat.le_of_ble_eq_true h
theorem kd_114 : pg.2.2.1 114 = 0 := rfl
theorem cl_114 {ix : Nat} {q : Nat × Nat × Nat × Nat} (h : xm_as ix kl_9 = some q) : pg.2.2.2 114 ix = some q := h
theorem fo_114 {ix : Nat} {q : Nat × Nat × Nat} (h : xm_as ix kf_9 = some q) : (pg.1 114).2.2.1 ix = some q := h
theorem ko_114 {ix : Nat} {q : xm_V} (h : xm_as ix kc_9 = some q) : (pg.1 114).2.1 ix = some q := h
theorem so_114 {ix : Nat} {q : Nat} (h : xm_as ix ks_9 = some q) : (pg.1 114).2.2.2.2.1 ix = some q := h
theorem no_114 {ix : Nat} {q : Nat × List xm_F} (h : xm_as ix kn_9 = some q) : (pg.1 114).2.2.2.1 ix = some q := h
theorem xo_114 {ix q : Nat} (h : (ym_114).2.2.2.2.2 ix = q) : (pg.1 114).2.2.2.2.2 ix = q := h
theorem in_115 {pc : Nat} {i : Jvm.ClassFile.Instr × Nat} (h : xm_tb pc tb_115 = some i) : (pg.1 115).1 pc = some i := h
theorem nl_115 {a : Nat} (h : Nat.ble (a + 1) 2 = true) : a < pg.2.1 115 := Nat.le_of_ble_eq_true h
theorem kd_115 : pg.2.2.1 115 = 1 := rfl
theorem cl_115 {ix : Nat} {q : Nat × Nat × Nat × Nat} (h : xm_as ix kl_9 = some q) : pg.2.2.2 115 ix = some q := h
theorem fo_115 {ix : Nat} {q : Nat × Nat × Nat} (h : xm_as ix kf_9 = some q) : (pg.1 115).2.2.1 ix = some q := h
theorem ko_115 {ix : Nat} {q : xm_V} (h : xm_as ix kc_9 = some q) : (pg.1 115).2.1 ix = some q := h
theorem so_115 {ix : Nat} {q : Nat} (h : xm_as ix ks_9 = some q) : (pg.1 115).2.2.2.2.1 ix = some q := h
theorem no_115 {ix : Nat} {q : Nat × List xm_F} (h : xm_as ix kn_9 = some q) : (pg.1 115).2.2.2.1 ix = some q := h
theorem xo_115 {ix q : Nat} (h : (ym_115).2.2.2.2.2 ix = q) : (pg.1 115).2.2.2.2.2 ix = q := h
theorem in_116 {pc : Nat} {i : Jvm.ClassFile.Instr × Nat} (h : xm_tb pc tb_116 = some i) : (pg.1 116).1 pc = some i := h
theorem nl_116 {a : Nat} (h : Nat.ble (a + 1) 2 = true) : a < pg.2.1 116 := Nat.le_of_ble_eq_true h
theorem kd_116 : pg.2.2.1 116 = 1 := rfl
theorem cl_116 {ix : Nat} {q : Nat × Nat × Nat × Nat} (h : xm_as ix kl_9 = some q) : pg.2.2.2 116 ix = some q := h
theorem fo_116 {ix : Nat} {q : Nat × Nat × Nat} (h : xm_as ix kf_9 = some q) : (pg.1 116).2.2.1 ix = some q := h
theorem ko_116 {ix : Nat} {q : xm_V} (h : xm_as ix kc_9 = some q) : (pg.1 116).2.1 ix = some q := h
theorem so_116 {ix : Nat} {q : Nat} (h : xm_as ix ks_9 = some q) : (pg.1 116).2.2.2.2.1 ix = some q := h
theorem no_116 {ix : Nat} {q : Nat × List xm_F} (h : xm_as ix kn_9 = some q) : (pg.1 116).2.2.2.1 ix = some q := h
theorem xo_116 {ix q : Nat} (h : (ym_116).2.2.2.2.2 ix = q) : (pg.1 116).2.2.2.2.2 ix = q := h
theorem in_117 {pc : Nat} {i : Jvm.ClassFile.Instr × Nat} (h : xm_tb pc tb_117 = some i) : (pg.1 117).1 pc = some i := h
theorem nl_117 {a : Nat} (h : Nat.ble (a + 1) 4 = true) : a < pg.2.1 117 := Nat.le_of_ble_eq_true h
theorem kd_117 : pg.2.2.1 117 = 1 := rfl
theorem cl_117 {ix : Nat} {q : Nat × Nat × Nat × Nat} (h : xm_as ix kl_9 = some q) : pg.2.2.2 117 ix = some q := h
theorem fo_117 {ix : Nat} {q : Nat × Nat × Nat} (h : xm_as ix kf_9 = some q) : (pg.1 117).2.2.1 ix = some q := h
theorem ko_117 {ix : Nat} {q : xm_V} (h : xm_as ix kc_9 = some q) : (pg.1 117).2.1 ix = some q := h
theorem so_117 {ix : Nat} {q : Nat} (h : xm_as ix ks_9 = some q) : (pg.1 117).2.2.2.2.1 ix = some q := h
theorem no_117 {ix : Nat} {q : Nat × List xm_F} (h : xm_as ix kn_9 = some q) : (pg.1 117).2.2.2.1 ix = some q := h
theorem xo_117 {ix q : Nat} (h : (ym_117).2.2.2.2.2 ix = q) : (pg.1 117).2.2.2.2.2 ix = q := h
theorem in_118 {pc : Nat} {i : Jvm.ClassFile.Instr × Nat} (h : xm_tb pc tb_118 = some i) : (pg.1 118).1 pc = some i := h
theorem nl_118 {a : Nat} (h : Nat.ble (a + 1) 3 = true) : a < pg.2.1 118 := Nat.le_of_ble_eq_true h
theorem kd_118 : pg.2.2.1 118 = 4 := rfl
theorem cl_118 {ix : Nat} {q : Nat × Nat × Nat × Nat} (h : xm_as ix kl_9 = some q) : pg.2.2.2 118 ix = some q := h
theorem fo_118 {ix : Nat} {q : Nat × Nat × Nat} (h : xm_as ix kf_9 = some q) : (pg.1 118).2.2.1 ix = some q := h
theorem ko_118 {ix : Nat} {q : xm_V} (h : xm_as ix kc_9 = some q) : (pg.1 118).2.1 ix = some q := h
theorem so_118 {ix : Nat} {q : Nat} (h : xm_as ix ks_9 = some q) : (pg.1 118).2.2.2.2.1 ix = some q := h
theorem no_118 {ix : Nat} {q : Nat × List xm_F} (h : xm_as ix kn_9 = some q) : (pg.1 118).2.2.2.1 ix = some q := h
theorem xo_118 {ix q : Nat} (h : (ym_118).2.2.2.2.2 ix = q) : (pg.1 118).2.2.2.2.2 ix = q := h
theorem in_119 {pc : Nat} {i : Jvm.ClassFile.Instr × Nat} (h : xm_tb pc tb_119 = some i) : (pg.1 119).1 pc = some i := h
theorem nl_119 {a : Nat} (h : Nat.ble (a + 1) 3 = true) : a < pg.2.1 119 := Nat.le_of_ble_eq_true h
theorem kd_119 : pg.2.2.1 119 = 1 := rfl
theorem cl_119 {ix : Nat} {q : Nat × Nat × Nat × Nat} (h : xm_as ix kl_9 = some q) : pg.2.2.2 119 ix = some q := h
theorem fo_119 {ix : Nat} {q : Nat × Nat × Nat} (h : xm_as ix kf_9 = some q) : (pg.1 119).2.2.1 ix = some q := h
theorem ko_119 {ix : Nat} {q : xm_V} (h : xm_as ix kc_9 = some q) : (pg.1 119).2.1 ix = some q := h
theorem so_119 {ix : Nat} {q : Nat} (h : xm_as ix ks_9 = some q) : (pg.1 119).2.2.2.2.1 ix = some q := h
theorem no_119 {ix : Nat} {q : Nat × List xm_F} (h : xm_as ix kn_9 = some q) : (pg.1 119).2.2.2.1 ix = some q := h
theorem xo_119 {ix q : Nat} (h : (ym_119).2.2.2.2.2 ix = q) : (pg.1 119).2.2.2.2.2 ix = q := h
