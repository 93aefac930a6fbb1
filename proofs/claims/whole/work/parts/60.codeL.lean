/-! CODE of the law from its loop on, by program: its head (h), each case, its tail (t) -/
def kL_h (L : Nat) (xs : Nat → Int32) : Cd := [(18, s_iload 3 19), (19, s_aload 0 20), (20, s_slen L 21), (21, s_pushi 6 23), (23, s_bin (fun x y => x - y) 24), (24, s_icmp (fun x y => y < x) 1666 27), (27, s_aload 0 28), (28, s_iload 3 29), (29, s_sld L xs 30), (30, s_pushi 63 32), (32, s_bin (fun x y => x &&& y) 33), (33, s_sw [(0, 240), (1, 273), (2, 322), (3, 345), (4, 378), (5, 411), (6, 454), (7, 487), (8, 520), (9, 553), (10, 576), (11, 589), (12, 622), (13, 655), (14, 678), (15, 691), (16, 724), (17, 747), (18, 770), (19, 803), (20, 846), (21, 879), (22, 912), (23, 935), (24, 958), (25, 991), (26, 1024), (27, 1067), (28, 1110), (29, 1143), (30, 1176), (31, 1199), (32, 1222), (33, 1255), (34, 1268), (35, 1281), (36, 1314), (37, 1347), (38, 1390), (39, 1433), (40, 1496), (41, 1519), (42, 1542), (43, 1575), (44, 1588), (45, 1601), (46, 1614), (47, 1637)] 1660)]
set_option maxRecDepth 20000 in
theorem zL_h (L : Nat) (xs : Nat → Int32) : ∀ q ∈ kL_h L xs, SndG (some (L, xs)) RL cL_law 4 lawRet room_1 q.1 q.2 :=
  fm (z_iload_n (j := 3) (by decide +kernel) rfl) (
  fm (z_aload_n (j := 0) (by decide +kernel) rfl) (
  fm (z_slen (show decode cL_law 20 = .ok (.arraylength, 1) from by decide +kernel)) (
  fm (z_bipush (n := 6) (by decide +kernel) (by decide)) (
  fm (z_isub (by decide +kernel)) (
  fm (z_icmp_gt (off := 1642) (by decide +kernel) (by decide)) (
  fm (z_aload_n (j := 0) (by decide +kernel) rfl) (
  fm (z_iload_n (j := 3) (by decide +kernel) rfl) (
  fm (z_sld (show decode cL_law 29 = .ok (.iaload, 1) from by decide +kernel)) (
  fm (z_bipush (n := 63) (by decide +kernel) (by decide)) (
  fm (z_iand (by decide +kernel)) (
  fm (z_tsw (dflt := 1627) (lo := 0) (hi := 47) (offs := #[207, 240, 289, 312, 345, 378, 421, 454, 487, 520, 543, 556, 589, 622, 645, 658, 691, 714, 737, 770, 813, 846, 879, 902, 925, 958, 991, 1034, 1077, 1110, 1143, 1166, 1189, 1222, 1235, 1248, 1281, 1314, 1357, 1400, 1463, 1486, 1509, 1542, 1555, 1568, 1581, 1604]) (len := 207) (by decide +kernel) (by decide) rfl (by decide) (by decide +kernel)) (fn))))))))))))
def kL_0 (L : Nat) (xs : Nat → Int32) : Cd := [(240, s_aload 1 241), (241, s_aload 0 242), (242, s_iload 3 243), (243, s_pushi 1 244), (244, s_bin (fun x y => x + y) 245), (245, s_sld L xs 246), (246, s_aload 0 247), (247, s_iload 3 248), (248, s_pushi 2 249), (249, s_bin (fun x y => x + y) 250), (250, s_sld L xs 251), (251, s_inv mX4_visits 4 2 254), (254, s_aload 2 255), (255, s_aload 0 256), (256, s_iload 3 257), (257, s_pushi 1 258), (258, s_bin (fun x y => x + y) 259), (259, s_sld L xs 260), (260, s_aload 0 261), (261, s_iload 3 262), (262, s_pushi 2 263), (263, s_bin (fun x y => x + y) 264), (264, s_sld L xs 265), (265, s_inv mX5_visits 5 2 268), (268, s_icmp (fun x y => x = y) 1660 271), (271, s_pushi 0 272)]
set_option maxRecDepth 20000 in
theorem zL_0 (L : Nat) (xs : Nat → Int32) : ∀ q ∈ kL_0 L xs, SndG (some (L, xs)) RL cL_law 4 lawRet room_1 q.1 q.2 :=
  fm (z_aload_n (j := 1) (by decide +kernel) rfl) (
  fm (z_aload_n (j := 0) (by decide +kernel) rfl) (
  fm (z_iload_n (j := 3) (by decide +kernel) rfl) (
  fm (z_iconst (n := 1) (by decide +kernel) (by decide)) (
  fm (z_iadd (by decide +kernel)) (
  fm (z_sld (show decode cL_law 245 = .ok (.iaload, 1) from by decide +kernel)) (
  fm (z_aload_n (j := 0) (by decide +kernel) rfl) (
  fm (z_iload_n (j := 3) (by decide +kernel) rfl) (
  fm (z_iconst (n := 2) (by decide +kernel) (by decide)) (
  fm (z_iadd (by decide +kernel)) (
  fm (z_sld (show decode cL_law 250 = .ok (.iaload, 1) from by decide +kernel)) (
  fm (z_inv (idx := 13) rfl (by decide +kernel) wd_1_177 wd_1_178 wd_1_179 wd_1_1 wd_1_180 (by decide +kernel) ⟨Nat.le_of_ble_eq_true rfl, Nat.le_of_ble_eq_true rfl⟩) (
  fm (z_aload_n (j := 2) (by decide +kernel) rfl) (
  fm (z_aload_n (j := 0) (by decide +kernel) rfl) (
  fm (z_iload_n (j := 3) (by decide +kernel) rfl) (
  fm (z_iconst (n := 1) (by decide +kernel) (by decide)) (
  fm (z_iadd (by decide +kernel)) (
  fm (z_sld (show decode cL_law 259 = .ok (.iaload, 1) from by decide +kernel)) (
  fm (z_aload_n (j := 0) (by decide +kernel) rfl) (
  fm (z_iload_n (j := 3) (by decide +kernel) rfl) (
  fm (z_iconst (n := 2) (by decide +kernel) (by decide)) (
  fm (z_iadd (by decide +kernel)) (
  fm (z_sld (show decode cL_law 264 = .ok (.iaload, 1) from by decide +kernel)) (
  fm (z_inv (idx := 17) rfl (by decide +kernel) wd_4_64 wd_4_65 wd_4_66 wd_1_7 wd_4_67 (by decide +kernel) ⟨Nat.le_of_ble_eq_true rfl, Nat.le_of_ble_eq_true rfl⟩) (
  fm (z_icmp_eq (off := 1392) (by decide +kernel) (by decide)) (
  fm (z_iconst (n := 0) (by decide +kernel) (by decide)) (fn))))))))))))))))))))))))))
def kL_1 (L : Nat) (xs : Nat → Int32) : Cd := [(273, s_aload 1 274), (274, s_aload 0 275), (275, s_iload 3 276), (276, s_pushi 1 277), (277, s_bin (fun x y => x + y) 278), (278, s_sld L xs 279), (279, s_aload 0 280), (280, s_iload 3 281), (281, s_pushi 2 282), (282, s_bin (fun x y => x + y) 283), (283, s_sld L xs 284), (284, s_if (fun x => x = 0) 291 287), (287, s_pushi 1 288), (288, s_goto 292), (291, s_pushi 0 292), (292, s_inv mX4_shade 4 2 295), (295, s_aload 2 296), (296, s_aload 0 297), (297, s_iload 3 298), (298, s_pushi 1 299), (299, s_bin (fun x y => x + y) 300), (300, s_sld L xs 301), (301, s_aload 0 302), (302, s_iload 3 303), (303, s_pushi 2 304), (304, s_bin (fun x y => x + y) 305), (305, s_sld L xs 306), (306, s_if (fun x => x = 0) 313 309), (309, s_pushi 1 310), (310, s_goto 314), (313, s_pushi 0 314), (314, s_inv mX5_shade 5 2 317), (317, s_icmp (fun x y => x = y) 1660 320), (320, s_pushi 0 321)]
set_option maxRecDepth 20000 in
theorem zL_1 (L : Nat) (xs : Nat → Int32) : ∀ q ∈ kL_1 L xs, SndG (some (L, xs)) RL cL_law 4 lawRet room_1 q.1 q.2 :=
  fm (z_aload_n (j := 1) (by decide +kernel) rfl) (
  fm (z_aload_n (j := 0) (by decide +kernel) rfl) (
  fm (z_iload_n (j := 3) (by decide +kernel) rfl) (
  fm (z_iconst (n := 1) (by decide +kernel) (by decide)) (
  fm (z_iadd (by decide +kernel)) (
  fm (z_sld (show decode cL_law 278 = .ok (.iaload, 1) from by decide +kernel)) (
  fm (z_aload_n (j := 0) (by decide +kernel) rfl) (
  fm (z_iload_n (j := 3) (by decide +kernel) rfl) (
  fm (z_iconst (n := 2) (by decide +kernel) (by decide)) (
  fm (z_iadd (by decide +kernel)) (
  fm (z_sld (show decode cL_law 283 = .ok (.iaload, 1) from by decide +kernel)) (
  fm (z_if_eq (off := 7) (by decide +kernel) (by decide)) (
  fm (z_iconst (n := 1) (by decide +kernel) (by decide)) (
  fm (z_goto (off := 4) (by decide +kernel) (by decide)) (
  fm (z_iconst (n := 0) (by decide +kernel) (by decide)) (
  fm (z_inv (idx := 18) rfl (by decide +kernel) wd_1_189 wd_1_190 wd_1_191 wd_1_1 wd_1_192 (by decide +kernel) ⟨Nat.le_of_ble_eq_true rfl, Nat.le_of_ble_eq_true rfl⟩) (
  fm (z_aload_n (j := 2) (by decide +kernel) rfl) (
  fm (z_aload_n (j := 0) (by decide +kernel) rfl) (
  fm (z_iload_n (j := 3) (by decide +kernel) rfl) (
  fm (z_iconst (n := 1) (by decide +kernel) (by decide)) (
  fm (z_iadd (by decide +kernel)) (
  fm (z_sld (show decode cL_law 300 = .ok (.iaload, 1) from by decide +kernel)) (
  fm (z_aload_n (j := 0) (by decide +kernel) rfl) (
  fm (z_iload_n (j := 3) (by decide +kernel) rfl) (
  fm (z_iconst (n := 2) (by decide +kernel) (by decide)) (
  fm (z_iadd (by decide +kernel)) (
  fm (z_sld (show decode cL_law 305 = .ok (.iaload, 1) from by decide +kernel)) (
  fm (z_if_eq (off := 7) (by decide +kernel) (by decide)) (
  fm (z_iconst (n := 1) (by decide +kernel) (by decide)) (
  fm (z_goto (off := 4) (by decide +kernel) (by decide)) (
  fm (z_iconst (n := 0) (by decide +kernel) (by decide)) (
  fm (z_inv (idx := 22) rfl (by decide +kernel) wd_4_81 wd_4_82 wd_4_83 wd_1_7 wd_4_84 (by decide +kernel) ⟨Nat.le_of_ble_eq_true rfl, Nat.le_of_ble_eq_true rfl⟩) (
  fm (z_icmp_eq (off := 1343) (by decide +kernel) (by decide)) (
  fm (z_iconst (n := 0) (by decide +kernel) (by decide)) (fn))))))))))))))))))))))))))))))))))
def kL_2 (L : Nat) (xs : Nat → Int32) : Cd := [(322, s_aload 1 323), (323, s_aload 0 324), (324, s_iload 3 325), (325, s_pushi 1 326), (326, s_bin (fun x y => x + y) 327), (327, s_sld L xs 328), (328, s_inv mX4_spring 4 1 331), (331, s_aload 2 332), (332, s_aload 0 333), (333, s_iload 3 334), (334, s_pushi 1 335), (335, s_bin (fun x y => x + y) 336), (336, s_sld L xs 337), (337, s_inv mX5_spring 5 1 340), (340, s_icmp (fun x y => x = y) 1660 343), (343, s_pushi 0 344)]
set_option maxRecDepth 20000 in
theorem zL_2 (L : Nat) (xs : Nat → Int32) : ∀ q ∈ kL_2 L xs, SndG (some (L, xs)) RL cL_law 4 lawRet room_1 q.1 q.2 :=
  fm (z_aload_n (j := 1) (by decide +kernel) rfl) (
  fm (z_aload_n (j := 0) (by decide +kernel) rfl) (
  fm (z_iload_n (j := 3) (by decide +kernel) rfl) (
  fm (z_iconst (n := 1) (by decide +kernel) (by decide)) (
  fm (z_iadd (by decide +kernel)) (
  fm (z_sld (show decode cL_law 327 = .ok (.iaload, 1) from by decide +kernel)) (
  fm (z_inv (idx := 23) rfl (by decide +kernel) wd_1_193 wd_1_194 wd_1_195 wd_1_1 wd_1_196 (by decide +kernel) ⟨Nat.le_of_ble_eq_true rfl, Nat.le_of_ble_eq_true rfl⟩) (
  fm (z_aload_n (j := 2) (by decide +kernel) rfl) (
  fm (z_aload_n (j := 0) (by decide +kernel) rfl) (
  fm (z_iload_n (j := 3) (by decide +kernel) rfl) (
  fm (z_iconst (n := 1) (by decide +kernel) (by decide)) (
  fm (z_iadd (by decide +kernel)) (
  fm (z_sld (show decode cL_law 336 = .ok (.iaload, 1) from by decide +kernel)) (
  fm (z_inv (idx := 27) rfl (by decide +kernel) wd_4_85 wd_4_86 wd_4_87 wd_1_7 wd_4_88 (by decide +kernel) ⟨Nat.le_of_ble_eq_true rfl, Nat.le_of_ble_eq_true rfl⟩) (
  fm (z_icmp_eq (off := 1320) (by decide +kernel) (by decide)) (
  fm (z_iconst (n := 0) (by decide +kernel) (by decide)) (fn))))))))))))))))
def kL_3 (L : Nat) (xs : Nat → Int32) : Cd := [(345, s_aload 1 346), (346, s_aload 0 347), (347, s_iload 3 348), (348, s_pushi 1 349), (349, s_bin (fun x y => x + y) 350), (350, s_sld L xs 351), (351, s_aload 0 352), (352, s_iload 3 353), (353, s_pushi 2 354), (354, s_bin (fun x y => x + y) 355), (355, s_sld L xs 356), (356, s_inv mX4_stall 4 2 359), (359, s_aload 2 360), (360, s_aload 0 361), (361, s_iload 3 362), (362, s_pushi 1 363), (363, s_bin (fun x y => x + y) 364), (364, s_sld L xs 365), (365, s_aload 0 366), (366, s_iload 3 367), (367, s_pushi 2 368), (368, s_bin (fun x y => x + y) 369), (369, s_sld L xs 370), (370, s_inv mX5_stall 5 2 373), (373, s_icmp (fun x y => x = y) 1660 376), (376, s_pushi 0 377)]
set_option maxRecDepth 20000 in
theorem zL_3 (L : Nat) (xs : Nat → Int32) : ∀ q ∈ kL_3 L xs, SndG (some (L, xs)) RL cL_law 4 lawRet room_1 q.1 q.2 :=
  fm (z_aload_n (j := 1) (by decide +kernel) rfl) (
  fm (z_aload_n (j := 0) (by decide +kernel) rfl) (
  fm (z_iload_n (j := 3) (by decide +kernel) rfl) (
  fm (z_iconst (n := 1) (by decide +kernel) (by decide)) (
  fm (z_iadd (by decide +kernel)) (
  fm (z_sld (show decode cL_law 350 = .ok (.iaload, 1) from by decide +kernel)) (
  fm (z_aload_n (j := 0) (by decide +kernel) rfl) (
  fm (z_iload_n (j := 3) (by decide +kernel) rfl) (
  fm (z_iconst (n := 2) (by decide +kernel) (by decide)) (
  fm (z_iadd (by decide +kernel)) (
  fm (z_sld (show decode cL_law 355 = .ok (.iaload, 1) from by decide +kernel)) (
  fm (z_inv (idx := 28) rfl (by decide +kernel) wd_1_197 wd_1_198 wd_1_199 wd_1_1 wd_1_200 (by decide +kernel) ⟨Nat.le_of_ble_eq_true rfl, Nat.le_of_ble_eq_true rfl⟩) (
  fm (z_aload_n (j := 2) (by decide +kernel) rfl) (
  fm (z_aload_n (j := 0) (by decide +kernel) rfl) (
  fm (z_iload_n (j := 3) (by decide +kernel) rfl) (
  fm (z_iconst (n := 1) (by decide +kernel) (by decide)) (
  fm (z_iadd (by decide +kernel)) (
  fm (z_sld (show decode cL_law 364 = .ok (.iaload, 1) from by decide +kernel)) (
  fm (z_aload_n (j := 0) (by decide +kernel) rfl) (
  fm (z_iload_n (j := 3) (by decide +kernel) rfl) (
  fm (z_iconst (n := 2) (by decide +kernel) (by decide)) (
  fm (z_iadd (by decide +kernel)) (
  fm (z_sld (show decode cL_law 369 = .ok (.iaload, 1) from by decide +kernel)) (
  fm (z_inv (idx := 31) rfl (by decide +kernel) wd_4_89 wd_4_90 wd_4_91 wd_1_7 wd_4_92 (by decide +kernel) ⟨Nat.le_of_ble_eq_true rfl, Nat.le_of_ble_eq_true rfl⟩) (
  fm (z_icmp_eq (off := 1287) (by decide +kernel) (by decide)) (
  fm (z_iconst (n := 0) (by decide +kernel) (by decide)) (fn))))))))))))))))))))))))))
def kL_4 (L : Nat) (xs : Nat → Int32) : Cd := [(378, s_aload 1 379), (379, s_aload 0 380), (380, s_iload 3 381), (381, s_pushi 1 382), (382, s_bin (fun x y => x + y) 383), (383, s_sld L xs 384), (384, s_aload 0 385), (385, s_iload 3 386), (386, s_pushi 2 387), (387, s_bin (fun x y => x + y) 388), (388, s_sld L xs 389), (389, s_inv mX4_of 4 2 392), (392, s_aload 2 393), (393, s_aload 0 394), (394, s_iload 3 395), (395, s_pushi 1 396), (396, s_bin (fun x y => x + y) 397), (397, s_sld L xs 398), (398, s_aload 0 399), (399, s_iload 3 400), (400, s_pushi 2 401), (401, s_bin (fun x y => x + y) 402), (402, s_sld L xs 403), (403, s_inv mX5_of 5 2 406), (406, s_icmp (fun x y => x = y) 1660 409), (409, s_pushi 0 410)]
set_option maxRecDepth 20000 in
theorem zL_4 (L : Nat) (xs : Nat → Int32) : ∀ q ∈ kL_4 L xs, SndG (some (L, xs)) RL cL_law 4 lawRet room_1 q.1 q.2 :=
  fm (z_aload_n (j := 1) (by decide +kernel) rfl) (
  fm (z_aload_n (j := 0) (by decide +kernel) rfl) (
  fm (z_iload_n (j := 3) (by decide +kernel) rfl) (
  fm (z_iconst (n := 1) (by decide +kernel) (by decide)) (
  fm (z_iadd (by decide +kernel)) (
  fm (z_sld (show decode cL_law 383 = .ok (.iaload, 1) from by decide +kernel)) (
  fm (z_aload_n (j := 0) (by decide +kernel) rfl) (
  fm (z_iload_n (j := 3) (by decide +kernel) rfl) (
  fm (z_iconst (n := 2) (by decide +kernel) (by decide)) (
  fm (z_iadd (by decide +kernel)) (
  fm (z_sld (show decode cL_law 388 = .ok (.iaload, 1) from by decide +kernel)) (
  fm (z_inv (idx := 32) rfl (by decide +kernel) wd_1_212 wd_1_213 wd_1_214 wd_1_1 wd_1_215 (by decide +kernel) ⟨Nat.le_of_ble_eq_true rfl, Nat.le_of_ble_eq_true rfl⟩) (
  fm (z_aload_n (j := 2) (by decide +kernel) rfl) (
  fm (z_aload_n (j := 0) (by decide +kernel) rfl) (
  fm (z_iload_n (j := 3) (by decide +kernel) rfl) (
  fm (z_iconst (n := 1) (by decide +kernel) (by decide)) (
  fm (z_iadd (by decide +kernel)) (
  fm (z_sld (show decode cL_law 397 = .ok (.iaload, 1) from by decide +kernel)) (
  fm (z_aload_n (j := 0) (by decide +kernel) rfl) (
  fm (z_iload_n (j := 3) (by decide +kernel) rfl) (
  fm (z_iconst (n := 2) (by decide +kernel) (by decide)) (
  fm (z_iadd (by decide +kernel)) (
  fm (z_sld (show decode cL_law 402 = .ok (.iaload, 1) from by decide +kernel)) (
  fm (z_inv (idx := 35) rfl (by decide +kernel) wd_4_111 wd_4_112 wd_4_113 wd_1_7 wd_4_114 (by decide +kernel) ⟨Nat.le_of_ble_eq_true rfl, Nat.le_of_ble_eq_true rfl⟩) (
  fm (z_icmp_eq (off := 1254) (by decide +kernel) (by decide)) (
  fm (z_iconst (n := 0) (by decide +kernel) (by decide)) (fn))))))))))))))))))))))))))
def kL_5 (L : Nat) (xs : Nat → Int32) : Cd := [(411, s_aload 1 412), (412, s_aload 0 413), (413, s_iload 3 414), (414, s_pushi 1 415), (415, s_bin (fun x y => x + y) 416), (416, s_sld L xs 417), (417, s_aload 0 418), (418, s_iload 3 419), (419, s_pushi 2 420), (420, s_bin (fun x y => x + y) 421), (421, s_sld L xs 422), (422, s_aload 0 423), (423, s_iload 3 424), (424, s_pushi 3 425), (425, s_bin (fun x y => x + y) 426), (426, s_sld L xs 427), (427, s_inv mX4_change 4 3 430), (430, s_aload 2 431), (431, s_aload 0 432), (432, s_iload 3 433), (433, s_pushi 1 434), (434, s_bin (fun x y => x + y) 435), (435, s_sld L xs 436), (436, s_aload 0 437), (437, s_iload 3 438), (438, s_pushi 2 439), (439, s_bin (fun x y => x + y) 440), (440, s_sld L xs 441), (441, s_aload 0 442), (442, s_iload 3 443), (443, s_pushi 3 444), (444, s_bin (fun x y => x + y) 445), (445, s_sld L xs 446), (446, s_inv mX5_change 5 3 449), (449, s_icmp (fun x y => x = y) 1660 452), (452, s_pushi 0 453)]
set_option maxRecDepth 20000 in
theorem zL_5 (L : Nat) (xs : Nat → Int32) : ∀ q ∈ kL_5 L xs, SndG (some (L, xs)) RL cL_law 4 lawRet room_1 q.1 q.2 :=
  fm (z_aload_n (j := 1) (by decide +kernel) rfl) (
  fm (z_aload_n (j := 0) (by decide +kernel) rfl) (
  fm (z_iload_n (j := 3) (by decide +kernel) rfl) (
  fm (z_iconst (n := 1) (by decide +kernel) (by decide)) (
  fm (z_iadd (by decide +kernel)) (
  fm (z_sld (show decode cL_law 416 = .ok (.iaload, 1) from by decide +kernel)) (
  fm (z_aload_n (j := 0) (by decide +kernel) rfl) (
  fm (z_iload_n (j := 3) (by decide +kernel) rfl) (
  fm (z_iconst (n := 2) (by decide +kernel) (by decide)) (
  fm (z_iadd (by decide +kernel)) (
  fm (z_sld (show decode cL_law 421 = .ok (.iaload, 1) from by decide +kernel)) (
  fm (z_aload_n (j := 0) (by decide +kernel) rfl) (
  fm (z_iload_n (j := 3) (by decide +kernel) rfl) (
  fm (z_iconst (n := 3) (by decide +kernel) (by decide)) (
  fm (z_iadd (by decide +kernel)) (
  fm (z_sld (show decode cL_law 426 = .ok (.iaload, 1) from by decide +kernel)) (
  fm (z_inv (idx := 36) rfl (by decide +kernel) wd_1_230 wd_1_231 wd_1_232 wd_1_1 wd_1_233 (by decide +kernel) ⟨Nat.le_of_ble_eq_true rfl, Nat.le_of_ble_eq_true rfl⟩) (
  fm (z_aload_n (j := 2) (by decide +kernel) rfl) (
  fm (z_aload_n (j := 0) (by decide +kernel) rfl) (
  fm (z_iload_n (j := 3) (by decide +kernel) rfl) (
  fm (z_iconst (n := 1) (by decide +kernel) (by decide)) (
  fm (z_iadd (by decide +kernel)) (
  fm (z_sld (show decode cL_law 435 = .ok (.iaload, 1) from by decide +kernel)) (
  fm (z_aload_n (j := 0) (by decide +kernel) rfl) (
  fm (z_iload_n (j := 3) (by decide +kernel) rfl) (
  fm (z_iconst (n := 2) (by decide +kernel) (by decide)) (
  fm (z_iadd (by decide +kernel)) (
  fm (z_sld (show decode cL_law 440 = .ok (.iaload, 1) from by decide +kernel)) (
  fm (z_aload_n (j := 0) (by decide +kernel) rfl) (
  fm (z_iload_n (j := 3) (by decide +kernel) rfl) (
  fm (z_iconst (n := 3) (by decide +kernel) (by decide)) (
  fm (z_iadd (by decide +kernel)) (
  fm (z_sld (show decode cL_law 445 = .ok (.iaload, 1) from by decide +kernel)) (
  fm (z_inv (idx := 40) rfl (by decide +kernel) wd_4_127 wd_4_128 wd_4_129 wd_1_7 wd_4_130 (by decide +kernel) ⟨Nat.le_of_ble_eq_true rfl, Nat.le_of_ble_eq_true rfl⟩) (
  fm (z_icmp_eq (off := 1211) (by decide +kernel) (by decide)) (
  fm (z_iconst (n := 0) (by decide +kernel) (by decide)) (fn))))))))))))))))))))))))))))))))))))
def kL_6 (L : Nat) (xs : Nat → Int32) : Cd := [(454, s_aload 1 455), (455, s_aload 0 456), (456, s_iload 3 457), (457, s_pushi 1 458), (458, s_bin (fun x y => x + y) 459), (459, s_sld L xs 460), (460, s_aload 0 461), (461, s_iload 3 462), (462, s_pushi 2 463), (463, s_bin (fun x y => x + y) 464), (464, s_sld L xs 465), (465, s_inv mX4_swap 4 2 468), (468, s_aload 2 469), (469, s_aload 0 470), (470, s_iload 3 471), (471, s_pushi 1 472), (472, s_bin (fun x y => x + y) 473), (473, s_sld L xs 474), (474, s_aload 0 475), (475, s_iload 3 476), (476, s_pushi 2 477), (477, s_bin (fun x y => x + y) 478), (478, s_sld L xs 479), (479, s_inv mX5_swap 5 2 482), (482, s_icmp (fun x y => x = y) 1660 485), (485, s_pushi 0 486)]
set_option maxRecDepth 20000 in
theorem zL_6 (L : Nat) (xs : Nat → Int32) : ∀ q ∈ kL_6 L xs, SndG (some (L, xs)) RL cL_law 4 lawRet room_1 q.1 q.2 :=
  fm (z_aload_n (j := 1) (by decide +kernel) rfl) (
  fm (z_aload_n (j := 0) (by decide +kernel) rfl) (
  fm (z_iload_n (j := 3) (by decide +kernel) rfl) (
  fm (z_iconst (n := 1) (by decide +kernel) (by decide)) (
  fm (z_iadd (by decide +kernel)) (
  fm (z_sld (show decode cL_law 459 = .ok (.iaload, 1) from by decide +kernel)) (
  fm (z_aload_n (j := 0) (by decide +kernel) rfl) (
  fm (z_iload_n (j := 3) (by decide +kernel) rfl) (
  fm (z_iconst (n := 2) (by decide +kernel) (by decide)) (
  fm (z_iadd (by decide +kernel)) (
  fm (z_sld (show decode cL_law 464 = .ok (.iaload, 1) from by decide +kernel)) (
  fm (z_inv (idx := 41) rfl (by decide +kernel) wd_1_234 wd_1_235 wd_1_236 wd_1_1 wd_1_237 (by decide +kernel) ⟨Nat.le_of_ble_eq_true rfl, Nat.le_of_ble_eq_true rfl⟩) (
  fm (z_aload_n (j := 2) (by decide +kernel) rfl) (
  fm (z_aload_n (j := 0) (by decide +kernel) rfl) (
  fm (z_iload_n (j := 3) (by decide +kernel) rfl) (
  fm (z_iconst (n := 1) (by decide +kernel) (by decide)) (
  fm (z_iadd (by decide +kernel)) (
  fm (z_sld (show decode cL_law 473 = .ok (.iaload, 1) from by decide +kernel)) (
  fm (z_aload_n (j := 0) (by decide +kernel) rfl) (
  fm (z_iload_n (j := 3) (by decide +kernel) rfl) (
  fm (z_iconst (n := 2) (by decide +kernel) (by decide)) (
  fm (z_iadd (by decide +kernel)) (
  fm (z_sld (show decode cL_law 478 = .ok (.iaload, 1) from by decide +kernel)) (
  fm (z_inv (idx := 44) rfl (by decide +kernel) wd_4_132 wd_4_133 wd_4_134 wd_1_7 wd_4_135 (by decide +kernel) ⟨Nat.le_of_ble_eq_true rfl, Nat.le_of_ble_eq_true rfl⟩) (
  fm (z_icmp_eq (off := 1178) (by decide +kernel) (by decide)) (
  fm (z_iconst (n := 0) (by decide +kernel) (by decide)) (fn))))))))))))))))))))))))))
def kL_7 (L : Nat) (xs : Nat → Int32) : Cd := [(487, s_aload 1 488), (488, s_aload 0 489), (489, s_iload 3 490), (490, s_pushi 1 491), (491, s_bin (fun x y => x + y) 492), (492, s_sld L xs 493), (493, s_aload 0 494), (494, s_iload 3 495), (495, s_pushi 2 496), (496, s_bin (fun x y => x + y) 497), (497, s_sld L xs 498), (498, s_inv mX4_offers 4 2 501), (501, s_aload 2 502), (502, s_aload 0 503), (503, s_iload 3 504), (504, s_pushi 1 505), (505, s_bin (fun x y => x + y) 506), (506, s_sld L xs 507), (507, s_aload 0 508), (508, s_iload 3 509), (509, s_pushi 2 510), (510, s_bin (fun x y => x + y) 511), (511, s_sld L xs 512), (512, s_inv mX5_offers 5 2 515), (515, s_icmp (fun x y => x = y) 1660 518), (518, s_pushi 0 519)]
set_option maxRecDepth 20000 in
theorem zL_7 (L : Nat) (xs : Nat → Int32) : ∀ q ∈ kL_7 L xs, SndG (some (L, xs)) RL cL_law 4 lawRet room_1 q.1 q.2 :=
  fm (z_aload_n (j := 1) (by decide +kernel) rfl) (
  fm (z_aload_n (j := 0) (by decide +kernel) rfl) (
  fm (z_iload_n (j := 3) (by decide +kernel) rfl) (
  fm (z_iconst (n := 1) (by decide +kernel) (by decide)) (
  fm (z_iadd (by decide +kernel)) (
  fm (z_sld (show decode cL_law 492 = .ok (.iaload, 1) from by decide +kernel)) (
  fm (z_aload_n (j := 0) (by decide +kernel) rfl) (
  fm (z_iload_n (j := 3) (by decide +kernel) rfl) (
  fm (z_iconst (n := 2) (by decide +kernel) (by decide)) (
  fm (z_iadd (by decide +kernel)) (
  fm (z_sld (show decode cL_law 497 = .ok (.iaload, 1) from by decide +kernel)) (
  fm (z_inv (idx := 45) rfl (by decide +kernel) wd_2_2 wd_2_3 wd_2_4 wd_1_1 wd_2_5 (by decide +kernel) ⟨Nat.le_of_ble_eq_true rfl, Nat.le_of_ble_eq_true rfl⟩) (
  fm (z_aload_n (j := 2) (by decide +kernel) rfl) (
  fm (z_aload_n (j := 0) (by decide +kernel) rfl) (
  fm (z_iload_n (j := 3) (by decide +kernel) rfl) (
  fm (z_iconst (n := 1) (by decide +kernel) (by decide)) (
  fm (z_iadd (by decide +kernel)) (
  fm (z_sld (show decode cL_law 506 = .ok (.iaload, 1) from by decide +kernel)) (
  fm (z_aload_n (j := 0) (by decide +kernel) rfl) (
  fm (z_iload_n (j := 3) (by decide +kernel) rfl) (
  fm (z_iconst (n := 2) (by decide +kernel) (by decide)) (
  fm (z_iadd (by decide +kernel)) (
  fm (z_sld (show decode cL_law 511 = .ok (.iaload, 1) from by decide +kernel)) (
  fm (z_inv (idx := 48) rfl (by decide +kernel) wd_4_140 wd_4_141 wd_4_142 wd_1_7 wd_4_143 (by decide +kernel) ⟨Nat.le_of_ble_eq_true rfl, Nat.le_of_ble_eq_true rfl⟩) (
  fm (z_icmp_eq (off := 1145) (by decide +kernel) (by decide)) (
  fm (z_iconst (n := 0) (by decide +kernel) (by decide)) (fn))))))))))))))))))))))))))
def kL_8 (L : Nat) (xs : Nat → Int32) : Cd := [(520, s_aload 1 521), (521, s_aload 0 522), (522, s_iload 3 523), (523, s_pushi 1 524), (524, s_bin (fun x y => x + y) 525), (525, s_sld L xs 526), (526, s_aload 0 527), (527, s_iload 3 528), (528, s_pushi 2 529), (529, s_bin (fun x y => x + y) 530), (530, s_sld L xs 531), (531, s_inv mX4_placeOf 4 2 534), (534, s_aload 2 535), (535, s_aload 0 536), (536, s_iload 3 537), (537, s_pushi 1 538), (538, s_bin (fun x y => x + y) 539), (539, s_sld L xs 540), (540, s_aload 0 541), (541, s_iload 3 542), (542, s_pushi 2 543), (543, s_bin (fun x y => x + y) 544), (544, s_sld L xs 545), (545, s_inv mX5_placeOf 5 2 548), (548, s_icmp (fun x y => x = y) 1660 551), (551, s_pushi 0 552)]
set_option maxRecDepth 20000 in
theorem zL_8 (L : Nat) (xs : Nat → Int32) : ∀ q ∈ kL_8 L xs, SndG (some (L, xs)) RL cL_law 4 lawRet room_1 q.1 q.2 :=
  fm (z_aload_n (j := 1) (by decide +kernel) rfl) (
  fm (z_aload_n (j := 0) (by decide +kernel) rfl) (
  fm (z_iload_n (j := 3) (by decide +kernel) rfl) (
  fm (z_iconst (n := 1) (by decide +kernel) (by decide)) (
  fm (z_iadd (by decide +kernel)) (
  fm (z_sld (show decode cL_law 525 = .ok (.iaload, 1) from by decide +kernel)) (
  fm (z_aload_n (j := 0) (by decide +kernel) rfl) (
  fm (z_iload_n (j := 3) (by decide +kernel) rfl) (
  fm (z_iconst (n := 2) (by decide +kernel) (by decide)) (
  fm (z_iadd (by decide +kernel)) (
  fm (z_sld (show decode cL_law 530 = .ok (.iaload, 1) from by decide +kernel)) (
  fm (z_inv (idx := 49) rfl (by decide +kernel) wd_2_14 wd_2_15 wd_2_16 wd_1_1 wd_2_17 (by decide +kernel) ⟨Nat.le_of_ble_eq_true rfl, Nat.le_of_ble_eq_true rfl⟩) (
  fm (z_aload_n (j := 2) (by decide +kernel) rfl) (
  fm (z_aload_n (j := 0) (by decide +kernel) rfl) (
  fm (z_iload_n (j := 3) (by decide +kernel) rfl) (
  fm (z_iconst (n := 1) (by decide +kernel) (by decide)) (
  fm (z_iadd (by decide +kernel)) (
  fm (z_sld (show decode cL_law 539 = .ok (.iaload, 1) from by decide +kernel)) (
  fm (z_aload_n (j := 0) (by decide +kernel) rfl) (
  fm (z_iload_n (j := 3) (by decide +kernel) rfl) (
  fm (z_iconst (n := 2) (by decide +kernel) (by decide)) (
  fm (z_iadd (by decide +kernel)) (
  fm (z_sld (show decode cL_law 544 = .ok (.iaload, 1) from by decide +kernel)) (
  fm (z_inv (idx := 52) rfl (by decide +kernel) wd_4_148 wd_4_149 wd_4_150 wd_1_7 wd_4_151 (by decide +kernel) ⟨Nat.le_of_ble_eq_true rfl, Nat.le_of_ble_eq_true rfl⟩) (
  fm (z_icmp_eq (off := 1112) (by decide +kernel) (by decide)) (
  fm (z_iconst (n := 0) (by decide +kernel) (by decide)) (fn))))))))))))))))))))))))))
def kL_9 (L : Nat) (xs : Nat → Int32) : Cd := [(553, s_aload 1 554), (554, s_aload 0 555), (555, s_iload 3 556), (556, s_pushi 1 557), (557, s_bin (fun x y => x + y) 558), (558, s_sld L xs 559), (559, s_inv mX4_hours 4 1 562), (562, s_aload 2 563), (563, s_aload 0 564), (564, s_iload 3 565), (565, s_pushi 1 566), (566, s_bin (fun x y => x + y) 567), (567, s_sld L xs 568), (568, s_inv mX5_hours 5 1 571), (571, s_icmp (fun x y => x = y) 1660 574), (574, s_pushi 0 575)]
set_option maxRecDepth 20000 in
theorem zL_9 (L : Nat) (xs : Nat → Int32) : ∀ q ∈ kL_9 L xs, SndG (some (L, xs)) RL cL_law 4 lawRet room_1 q.1 q.2 :=
  fm (z_aload_n (j := 1) (by decide +kernel) rfl) (
  fm (z_aload_n (j := 0) (by decide +kernel) rfl) (
  fm (z_iload_n (j := 3) (by decide +kernel) rfl) (
  fm (z_iconst (n := 1) (by decide +kernel) (by decide)) (
  fm (z_iadd (by decide +kernel)) (
  fm (z_sld (show decode cL_law 558 = .ok (.iaload, 1) from by decide +kernel)) (
  fm (z_inv (idx := 53) rfl (by decide +kernel) wd_2_18 wd_2_19 wd_2_20 wd_1_1 wd_2_21 (by decide +kernel) ⟨Nat.le_of_ble_eq_true rfl, Nat.le_of_ble_eq_true rfl⟩) (
  fm (z_aload_n (j := 2) (by decide +kernel) rfl) (
  fm (z_aload_n (j := 0) (by decide +kernel) rfl) (
  fm (z_iload_n (j := 3) (by decide +kernel) rfl) (
  fm (z_iconst (n := 1) (by decide +kernel) (by decide)) (
  fm (z_iadd (by decide +kernel)) (
  fm (z_sld (show decode cL_law 567 = .ok (.iaload, 1) from by decide +kernel)) (
  fm (z_inv (idx := 56) rfl (by decide +kernel) wd_4_153 wd_4_154 wd_4_155 wd_1_7 wd_4_156 (by decide +kernel) ⟨Nat.le_of_ble_eq_true rfl, Nat.le_of_ble_eq_true rfl⟩) (
  fm (z_icmp_eq (off := 1089) (by decide +kernel) (by decide)) (
  fm (z_iconst (n := 0) (by decide +kernel) (by decide)) (fn))))))))))))))))
def kL_10 (L : Nat) (xs : Nat → Int32) : Cd := [(576, s_aload 1 577), (577, s_inv mX4_stay 4 0 580), (580, s_aload 2 581), (581, s_inv mX5_stay 5 0 584), (584, s_icmp (fun x y => x = y) 1660 587), (587, s_pushi 0 588)]
set_option maxRecDepth 20000 in
theorem zL_10 (L : Nat) (xs : Nat → Int32) : ∀ q ∈ kL_10 L xs, SndG (some (L, xs)) RL cL_law 4 lawRet room_1 q.1 q.2 :=
  fm (z_aload_n (j := 1) (by decide +kernel) rfl) (
  fm (z_inv (idx := 57) rfl (by decide +kernel) wd_2_60 wd_2_61 wd_2_62 wd_1_1 wd_2_63 (by decide +kernel) ⟨Nat.le_of_ble_eq_true rfl, Nat.le_of_ble_eq_true rfl⟩) (
  fm (z_aload_n (j := 2) (by decide +kernel) rfl) (
  fm (z_inv (idx := 61) rfl (by decide +kernel) wd_4_188 wd_4_189 wd_4_190 wd_1_7 wd_4_191 (by decide +kernel) ⟨Nat.le_of_ble_eq_true rfl, Nat.le_of_ble_eq_true rfl⟩) (
  fm (z_icmp_eq (off := 1076) (by decide +kernel) (by decide)) (
  fm (z_iconst (n := 0) (by decide +kernel) (by decide)) (fn))))))
def kL_11 (L : Nat) (xs : Nat → Int32) : Cd := [(589, s_aload 1 590), (590, s_aload 0 591), (591, s_iload 3 592), (592, s_pushi 1 593), (593, s_bin (fun x y => x + y) 594), (594, s_sld L xs 595), (595, s_aload 0 596), (596, s_iload 3 597), (597, s_pushi 2 598), (598, s_bin (fun x y => x + y) 599), (599, s_sld L xs 600), (600, s_inv mX4_ahead 4 2 603), (603, s_aload 2 604), (604, s_aload 0 605), (605, s_iload 3 606), (606, s_pushi 1 607), (607, s_bin (fun x y => x + y) 608), (608, s_sld L xs 609), (609, s_aload 0 610), (610, s_iload 3 611), (611, s_pushi 2 612), (612, s_bin (fun x y => x + y) 613), (613, s_sld L xs 614), (614, s_inv mX5_ahead 5 2 617), (617, s_icmp (fun x y => x = y) 1660 620), (620, s_pushi 0 621)]
set_option maxRecDepth 20000 in
theorem zL_11 (L : Nat) (xs : Nat → Int32) : ∀ q ∈ kL_11 L xs, SndG (some (L, xs)) RL cL_law 4 lawRet room_1 q.1 q.2 :=
  fm (z_aload_n (j := 1) (by decide +kernel) rfl) (
  fm (z_aload_n (j := 0) (by decide +kernel) rfl) (
  fm (z_iload_n (j := 3) (by decide +kernel) rfl) (
  fm (z_iconst (n := 1) (by decide +kernel) (by decide)) (
  fm (z_iadd (by decide +kernel)) (
  fm (z_sld (show decode cL_law 594 = .ok (.iaload, 1) from by decide +kernel)) (
  fm (z_aload_n (j := 0) (by decide +kernel) rfl) (
  fm (z_iload_n (j := 3) (by decide +kernel) rfl) (
  fm (z_iconst (n := 2) (by decide +kernel) (by decide)) (
  fm (z_iadd (by decide +kernel)) (
  fm (z_sld (show decode cL_law 599 = .ok (.iaload, 1) from by decide +kernel)) (
  fm (z_inv (idx := 62) rfl (by decide +kernel) wd_2_73 wd_2_74 wd_2_75 wd_1_1 wd_2_76 (by decide +kernel) ⟨Nat.le_of_ble_eq_true rfl, Nat.le_of_ble_eq_true rfl⟩) (
  fm (z_aload_n (j := 2) (by decide +kernel) rfl) (
  fm (z_aload_n (j := 0) (by decide +kernel) rfl) (
  fm (z_iload_n (j := 3) (by decide +kernel) rfl) (
  fm (z_iconst (n := 1) (by decide +kernel) (by decide)) (
  fm (z_iadd (by decide +kernel)) (
  fm (z_sld (show decode cL_law 608 = .ok (.iaload, 1) from by decide +kernel)) (
  fm (z_aload_n (j := 0) (by decide +kernel) rfl) (
  fm (z_iload_n (j := 3) (by decide +kernel) rfl) (
  fm (z_iconst (n := 2) (by decide +kernel) (by decide)) (
  fm (z_iadd (by decide +kernel)) (
  fm (z_sld (show decode cL_law 613 = .ok (.iaload, 1) from by decide +kernel)) (
  fm (z_inv (idx := 65) rfl (by decide +kernel) wd_4_192 wd_4_193 wd_4_194 wd_1_7 wd_4_195 (by decide +kernel) ⟨Nat.le_of_ble_eq_true rfl, Nat.le_of_ble_eq_true rfl⟩) (
  fm (z_icmp_eq (off := 1043) (by decide +kernel) (by decide)) (
  fm (z_iconst (n := 0) (by decide +kernel) (by decide)) (fn))))))))))))))))))))))))))
def kL_12 (L : Nat) (xs : Nat → Int32) : Cd := [(622, s_aload 1 623), (623, s_aload 0 624), (624, s_iload 3 625), (625, s_pushi 1 626), (626, s_bin (fun x y => x + y) 627), (627, s_sld L xs 628), (628, s_aload 0 629), (629, s_iload 3 630), (630, s_pushi 2 631), (631, s_bin (fun x y => x + y) 632), (632, s_sld L xs 633), (633, s_inv mX4_when 4 2 636), (636, s_aload 2 637), (637, s_aload 0 638), (638, s_iload 3 639), (639, s_pushi 1 640), (640, s_bin (fun x y => x + y) 641), (641, s_sld L xs 642), (642, s_aload 0 643), (643, s_iload 3 644), (644, s_pushi 2 645), (645, s_bin (fun x y => x + y) 646), (646, s_sld L xs 647), (647, s_inv mX5_when 5 2 650), (650, s_icmp (fun x y => x = y) 1660 653), (653, s_pushi 0 654)]
set_option maxRecDepth 20000 in
theorem zL_12 (L : Nat) (xs : Nat → Int32) : ∀ q ∈ kL_12 L xs, SndG (some (L, xs)) RL cL_law 4 lawRet room_1 q.1 q.2 :=
  fm (z_aload_n (j := 1) (by decide +kernel) rfl) (
  fm (z_aload_n (j := 0) (by decide +kernel) rfl) (
  fm (z_iload_n (j := 3) (by decide +kernel) rfl) (
  fm (z_iconst (n := 1) (by decide +kernel) (by decide)) (
  fm (z_iadd (by decide +kernel)) (
  fm (z_sld (show decode cL_law 627 = .ok (.iaload, 1) from by decide +kernel)) (
  fm (z_aload_n (j := 0) (by decide +kernel) rfl) (
  fm (z_iload_n (j := 3) (by decide +kernel) rfl) (
  fm (z_iconst (n := 2) (by decide +kernel) (by decide)) (
  fm (z_iadd (by decide +kernel)) (
  fm (z_sld (show decode cL_law 632 = .ok (.iaload, 1) from by decide +kernel)) (
  fm (z_inv (idx := 66) rfl (by decide +kernel) wd_2_89 wd_2_90 wd_2_91 wd_1_1 wd_2_92 (by decide +kernel) ⟨Nat.le_of_ble_eq_true rfl, Nat.le_of_ble_eq_true rfl⟩) (
  fm (z_aload_n (j := 2) (by decide +kernel) rfl) (
  fm (z_aload_n (j := 0) (by decide +kernel) rfl) (
  fm (z_iload_n (j := 3) (by decide +kernel) rfl) (
  fm (z_iconst (n := 1) (by decide +kernel) (by decide)) (
  fm (z_iadd (by decide +kernel)) (
  fm (z_sld (show decode cL_law 641 = .ok (.iaload, 1) from by decide +kernel)) (
  fm (z_aload_n (j := 0) (by decide +kernel) rfl) (
  fm (z_iload_n (j := 3) (by decide +kernel) rfl) (
  fm (z_iconst (n := 2) (by decide +kernel) (by decide)) (
  fm (z_iadd (by decide +kernel)) (
  fm (z_sld (show decode cL_law 646 = .ok (.iaload, 1) from by decide +kernel)) (
  fm (z_inv (idx := 69) rfl (by decide +kernel) wd_4_220 wd_4_221 wd_4_222 wd_1_7 wd_4_223 (by decide +kernel) ⟨Nat.le_of_ble_eq_true rfl, Nat.le_of_ble_eq_true rfl⟩) (
  fm (z_icmp_eq (off := 1010) (by decide +kernel) (by decide)) (
  fm (z_iconst (n := 0) (by decide +kernel) (by decide)) (fn))))))))))))))))))))))))))
def kL_13 (L : Nat) (xs : Nat → Int32) : Cd := [(655, s_aload 1 656), (656, s_aload 0 657), (657, s_iload 3 658), (658, s_pushi 1 659), (659, s_bin (fun x y => x + y) 660), (660, s_sld L xs 661), (661, s_inv mX4_empty 4 1 664), (664, s_aload 2 665), (665, s_aload 0 666), (666, s_iload 3 667), (667, s_pushi 1 668), (668, s_bin (fun x y => x + y) 669), (669, s_sld L xs 670), (670, s_inv mX5_empty 5 1 673), (673, s_icmp (fun x y => x = y) 1660 676), (676, s_pushi 0 677)]
set_option maxRecDepth 20000 in
theorem zL_13 (L : Nat) (xs : Nat → Int32) : ∀ q ∈ kL_13 L xs, SndG (some (L, xs)) RL cL_law 4 lawRet room_1 q.1 q.2 :=
  fm (z_aload_n (j := 1) (by decide +kernel) rfl) (
  fm (z_aload_n (j := 0) (by decide +kernel) rfl) (
  fm (z_iload_n (j := 3) (by decide +kernel) rfl) (
  fm (z_iconst (n := 1) (by decide +kernel) (by decide)) (
  fm (z_iadd (by decide +kernel)) (
  fm (z_sld (show decode cL_law 660 = .ok (.iaload, 1) from by decide +kernel)) (
  fm (z_inv (idx := 70) rfl (by decide +kernel) wd_2_94 wd_2_95 wd_2_96 wd_1_1 wd_2_97 (by decide +kernel) ⟨Nat.le_of_ble_eq_true rfl, Nat.le_of_ble_eq_true rfl⟩) (
  fm (z_aload_n (j := 2) (by decide +kernel) rfl) (
  fm (z_aload_n (j := 0) (by decide +kernel) rfl) (
  fm (z_iload_n (j := 3) (by decide +kernel) rfl) (
  fm (z_iconst (n := 1) (by decide +kernel) (by decide)) (
  fm (z_iadd (by decide +kernel)) (
  fm (z_sld (show decode cL_law 669 = .ok (.iaload, 1) from by decide +kernel)) (
  fm (z_inv (idx := 73) rfl (by decide +kernel) wd_4_225 wd_4_226 wd_4_227 wd_1_7 wd_4_228 (by decide +kernel) ⟨Nat.le_of_ble_eq_true rfl, Nat.le_of_ble_eq_true rfl⟩) (
  fm (z_icmp_eq (off := 987) (by decide +kernel) (by decide)) (
  fm (z_iconst (n := 0) (by decide +kernel) (by decide)) (fn))))))))))))))))
def kL_14 (L : Nat) (xs : Nat → Int32) : Cd := [(678, s_aload 1 679), (679, s_inv mX4_again 4 0 682), (682, s_aload 2 683), (683, s_inv mX5_again 5 0 686), (686, s_icmp (fun x y => x = y) 1660 689), (689, s_pushi 0 690)]
set_option maxRecDepth 20000 in
theorem zL_14 (L : Nat) (xs : Nat → Int32) : ∀ q ∈ kL_14 L xs, SndG (some (L, xs)) RL cL_law 4 lawRet room_1 q.1 q.2 :=
  fm (z_aload_n (j := 1) (by decide +kernel) rfl) (
  fm (z_inv (idx := 74) rfl (by decide +kernel) wd_2_98 wd_2_99 wd_2_100 wd_1_1 wd_2_101 (by decide +kernel) ⟨Nat.le_of_ble_eq_true rfl, Nat.le_of_ble_eq_true rfl⟩) (
  fm (z_aload_n (j := 2) (by decide +kernel) rfl) (
  fm (z_inv (idx := 77) rfl (by decide +kernel) wd_4_229 wd_4_230 wd_4_231 wd_1_7 wd_4_232 (by decide +kernel) ⟨Nat.le_of_ble_eq_true rfl, Nat.le_of_ble_eq_true rfl⟩) (
  fm (z_icmp_eq (off := 974) (by decide +kernel) (by decide)) (
  fm (z_iconst (n := 0) (by decide +kernel) (by decide)) (fn))))))
def kL_15 (L : Nat) (xs : Nat → Int32) : Cd := [(691, s_aload 1 692), (692, s_aload 0 693), (693, s_iload 3 694), (694, s_pushi 1 695), (695, s_bin (fun x y => x + y) 696), (696, s_sld L xs 697), (697, s_aload 0 698), (698, s_iload 3 699), (699, s_pushi 2 700), (700, s_bin (fun x y => x + y) 701), (701, s_sld L xs 702), (702, s_inv mX4_there 4 2 705), (705, s_aload 2 706), (706, s_aload 0 707), (707, s_iload 3 708), (708, s_pushi 1 709), (709, s_bin (fun x y => x + y) 710), (710, s_sld L xs 711), (711, s_aload 0 712), (712, s_iload 3 713), (713, s_pushi 2 714), (714, s_bin (fun x y => x + y) 715), (715, s_sld L xs 716), (716, s_inv mX5_there 5 2 719), (719, s_icmp (fun x y => x = y) 1660 722), (722, s_pushi 0 723)]
set_option maxRecDepth 20000 in
theorem zL_15 (L : Nat) (xs : Nat → Int32) : ∀ q ∈ kL_15 L xs, SndG (some (L, xs)) RL cL_law 4 lawRet room_1 q.1 q.2 :=
  fm (z_aload_n (j := 1) (by decide +kernel) rfl) (
  fm (z_aload_n (j := 0) (by decide +kernel) rfl) (
  fm (z_iload_n (j := 3) (by decide +kernel) rfl) (
  fm (z_iconst (n := 1) (by decide +kernel) (by decide)) (
  fm (z_iadd (by decide +kernel)) (
  fm (z_sld (show decode cL_law 696 = .ok (.iaload, 1) from by decide +kernel)) (
  fm (z_aload_n (j := 0) (by decide +kernel) rfl) (
  fm (z_iload_n (j := 3) (by decide +kernel) rfl) (
  fm (z_iconst (n := 2) (by decide +kernel) (by decide)) (
  fm (z_iadd (by decide +kernel)) (
  fm (z_sld (show decode cL_law 701 = .ok (.iaload, 1) from by decide +kernel)) (
  fm (z_inv (idx := 78) rfl (by decide +kernel) wd_2_106 wd_2_107 wd_2_108 wd_1_1 wd_2_109 (by decide +kernel) ⟨Nat.le_of_ble_eq_true rfl, Nat.le_of_ble_eq_true rfl⟩) (
  fm (z_aload_n (j := 2) (by decide +kernel) rfl) (
  fm (z_aload_n (j := 0) (by decide +kernel) rfl) (
  fm (z_iload_n (j := 3) (by decide +kernel) rfl) (
  fm (z_iconst (n := 1) (by decide +kernel) (by decide)) (
  fm (z_iadd (by decide +kernel)) (
  fm (z_sld (show decode cL_law 710 = .ok (.iaload, 1) from by decide +kernel)) (
  fm (z_aload_n (j := 0) (by decide +kernel) rfl) (
  fm (z_iload_n (j := 3) (by decide +kernel) rfl) (
  fm (z_iconst (n := 2) (by decide +kernel) (by decide)) (
  fm (z_iadd (by decide +kernel)) (
  fm (z_sld (show decode cL_law 715 = .ok (.iaload, 1) from by decide +kernel)) (
  fm (z_inv (idx := 81) rfl (by decide +kernel) wd_4_233 wd_4_234 wd_4_235 wd_1_7 wd_4_236 (by decide +kernel) ⟨Nat.le_of_ble_eq_true rfl, Nat.le_of_ble_eq_true rfl⟩) (
  fm (z_icmp_eq (off := 941) (by decide +kernel) (by decide)) (
  fm (z_iconst (n := 0) (by decide +kernel) (by decide)) (fn))))))))))))))))))))))))))
def kL_16 (L : Nat) (xs : Nat → Int32) : Cd := [(724, s_aload 1 725), (725, s_aload 0 726), (726, s_iload 3 727), (727, s_pushi 1 728), (728, s_bin (fun x y => x + y) 729), (729, s_sld L xs 730), (730, s_inv mX4_passes 4 1 733), (733, s_aload 2 734), (734, s_aload 0 735), (735, s_iload 3 736), (736, s_pushi 1 737), (737, s_bin (fun x y => x + y) 738), (738, s_sld L xs 739), (739, s_inv mX5_passes 5 1 742), (742, s_icmp (fun x y => x = y) 1660 745), (745, s_pushi 0 746)]
set_option maxRecDepth 20000 in
theorem zL_16 (L : Nat) (xs : Nat → Int32) : ∀ q ∈ kL_16 L xs, SndG (some (L, xs)) RL cL_law 4 lawRet room_1 q.1 q.2 :=
  fm (z_aload_n (j := 1) (by decide +kernel) rfl) (
  fm (z_aload_n (j := 0) (by decide +kernel) rfl) (
  fm (z_iload_n (j := 3) (by decide +kernel) rfl) (
  fm (z_iconst (n := 1) (by decide +kernel) (by decide)) (
  fm (z_iadd (by decide +kernel)) (
  fm (z_sld (show decode cL_law 729 = .ok (.iaload, 1) from by decide +kernel)) (
  fm (z_inv (idx := 82) rfl (by decide +kernel) wd_2_110 wd_2_111 wd_2_112 wd_1_1 wd_2_113 (by decide +kernel) ⟨Nat.le_of_ble_eq_true rfl, Nat.le_of_ble_eq_true rfl⟩) (
  fm (z_aload_n (j := 2) (by decide +kernel) rfl) (
  fm (z_aload_n (j := 0) (by decide +kernel) rfl) (
  fm (z_iload_n (j := 3) (by decide +kernel) rfl) (
  fm (z_iconst (n := 1) (by decide +kernel) (by decide)) (
  fm (z_iadd (by decide +kernel)) (
  fm (z_sld (show decode cL_law 738 = .ok (.iaload, 1) from by decide +kernel)) (
  fm (z_inv (idx := 85) rfl (by decide +kernel) wd_4_237 wd_4_238 wd_4_239 wd_1_7 wd_5_0 (by decide +kernel) ⟨Nat.le_of_ble_eq_true rfl, Nat.le_of_ble_eq_true rfl⟩) (
  fm (z_icmp_eq (off := 918) (by decide +kernel) (by decide)) (
  fm (z_iconst (n := 0) (by decide +kernel) (by decide)) (fn))))))))))))))))
def kL_17 (L : Nat) (xs : Nat → Int32) : Cd := [(747, s_aload 1 748), (748, s_aload 0 749), (749, s_iload 3 750), (750, s_pushi 1 751), (751, s_bin (fun x y => x + y) 752), (752, s_sld L xs 753), (753, s_inv mX4_most 4 1 756), (756, s_aload 2 757), (757, s_aload 0 758), (758, s_iload 3 759), (759, s_pushi 1 760), (760, s_bin (fun x y => x + y) 761), (761, s_sld L xs 762), (762, s_inv mX5_most 5 1 765), (765, s_icmp (fun x y => x = y) 1660 768), (768, s_pushi 0 769)]
set_option maxRecDepth 20000 in
theorem zL_17 (L : Nat) (xs : Nat → Int32) : ∀ q ∈ kL_17 L xs, SndG (some (L, xs)) RL cL_law 4 lawRet room_1 q.1 q.2 :=
  fm (z_aload_n (j := 1) (by decide +kernel) rfl) (
  fm (z_aload_n (j := 0) (by decide +kernel) rfl) (
  fm (z_iload_n (j := 3) (by decide +kernel) rfl) (
  fm (z_iconst (n := 1) (by decide +kernel) (by decide)) (
  fm (z_iadd (by decide +kernel)) (
  fm (z_sld (show decode cL_law 752 = .ok (.iaload, 1) from by decide +kernel)) (
  fm (z_inv (idx := 86) rfl (by decide +kernel) wd_2_116 wd_2_117 wd_2_118 wd_1_1 wd_2_119 (by decide +kernel) ⟨Nat.le_of_ble_eq_true rfl, Nat.le_of_ble_eq_true rfl⟩) (
  fm (z_aload_n (j := 2) (by decide +kernel) rfl) (
  fm (z_aload_n (j := 0) (by decide +kernel) rfl) (
  fm (z_iload_n (j := 3) (by decide +kernel) rfl) (
  fm (z_iconst (n := 1) (by decide +kernel) (by decide)) (
  fm (z_iadd (by decide +kernel)) (
  fm (z_sld (show decode cL_law 761 = .ok (.iaload, 1) from by decide +kernel)) (
  fm (z_inv (idx := 89) rfl (by decide +kernel) wd_5_1 wd_5_2 wd_5_3 wd_1_7 wd_5_4 (by decide +kernel) ⟨Nat.le_of_ble_eq_true rfl, Nat.le_of_ble_eq_true rfl⟩) (
  fm (z_icmp_eq (off := 895) (by decide +kernel) (by decide)) (
  fm (z_iconst (n := 0) (by decide +kernel) (by decide)) (fn))))))))))))))))
def kL_18 (L : Nat) (xs : Nat → Int32) : Cd := [(770, s_aload 1 771), (771, s_aload 0 772), (772, s_iload 3 773), (773, s_pushi 1 774), (774, s_bin (fun x y => x + y) 775), (775, s_sld L xs 776), (776, s_aload 0 777), (777, s_iload 3 778), (778, s_pushi 2 779), (779, s_bin (fun x y => x + y) 780), (780, s_sld L xs 781), (781, s_inv mX4_order 4 2 784), (784, s_aload 2 785), (785, s_aload 0 786), (786, s_iload 3 787), (787, s_pushi 1 788), (788, s_bin (fun x y => x + y) 789), (789, s_sld L xs 790), (790, s_aload 0 791), (791, s_iload 3 792), (792, s_pushi 2 793), (793, s_bin (fun x y => x + y) 794), (794, s_sld L xs 795), (795, s_inv mX5_order 5 2 798), (798, s_icmp (fun x y => x = y) 1660 801), (801, s_pushi 0 802)]
set_option maxRecDepth 20000 in
theorem zL_18 (L : Nat) (xs : Nat → Int32) : ∀ q ∈ kL_18 L xs, SndG (some (L, xs)) RL cL_law 4 lawRet room_1 q.1 q.2 :=
  fm (z_aload_n (j := 1) (by decide +kernel) rfl) (
  fm (z_aload_n (j := 0) (by decide +kernel) rfl) (
  fm (z_iload_n (j := 3) (by decide +kernel) rfl) (
  fm (z_iconst (n := 1) (by decide +kernel) (by decide)) (
  fm (z_iadd (by decide +kernel)) (
  fm (z_sld (show decode cL_law 775 = .ok (.iaload, 1) from by decide +kernel)) (
  fm (z_aload_n (j := 0) (by decide +kernel) rfl) (
  fm (z_iload_n (j := 3) (by decide +kernel) rfl) (
  fm (z_iconst (n := 2) (by decide +kernel) (by decide)) (
  fm (z_iadd (by decide +kernel)) (
  fm (z_sld (show decode cL_law 780 = .ok (.iaload, 1) from by decide +kernel)) (
  fm (z_inv (idx := 90) rfl (by decide +kernel) wd_2_149 wd_2_150 wd_2_151 wd_1_1 wd_2_152 (by decide +kernel) ⟨Nat.le_of_ble_eq_true rfl, Nat.le_of_ble_eq_true rfl⟩) (
  fm (z_aload_n (j := 2) (by decide +kernel) rfl) (
  fm (z_aload_n (j := 0) (by decide +kernel) rfl) (
  fm (z_iload_n (j := 3) (by decide +kernel) rfl) (
  fm (z_iconst (n := 1) (by decide +kernel) (by decide)) (
  fm (z_iadd (by decide +kernel)) (
  fm (z_sld (show decode cL_law 789 = .ok (.iaload, 1) from by decide +kernel)) (
  fm (z_aload_n (j := 0) (by decide +kernel) rfl) (
  fm (z_iload_n (j := 3) (by decide +kernel) rfl) (
  fm (z_iconst (n := 2) (by decide +kernel) (by decide)) (
  fm (z_iadd (by decide +kernel)) (
  fm (z_sld (show decode cL_law 794 = .ok (.iaload, 1) from by decide +kernel)) (
  fm (z_inv (idx := 93) rfl (by decide +kernel) wd_5_27 wd_5_28 wd_5_29 wd_1_7 wd_5_30 (by decide +kernel) ⟨Nat.le_of_ble_eq_true rfl, Nat.le_of_ble_eq_true rfl⟩) (
  fm (z_icmp_eq (off := 862) (by decide +kernel) (by decide)) (
  fm (z_iconst (n := 0) (by decide +kernel) (by decide)) (fn))))))))))))))))))))))))))
def kL_19 (L : Nat) (xs : Nat → Int32) : Cd := [(803, s_aload 1 804), (804, s_aload 0 805), (805, s_iload 3 806), (806, s_pushi 1 807), (807, s_bin (fun x y => x + y) 808), (808, s_sld L xs 809), (809, s_aload 0 810), (810, s_iload 3 811), (811, s_pushi 2 812), (812, s_bin (fun x y => x + y) 813), (813, s_sld L xs 814), (814, s_aload 0 815), (815, s_iload 3 816), (816, s_pushi 3 817), (817, s_bin (fun x y => x + y) 818), (818, s_sld L xs 819), (819, s_inv mX4_dawn 4 3 822), (822, s_aload 2 823), (823, s_aload 0 824), (824, s_iload 3 825), (825, s_pushi 1 826), (826, s_bin (fun x y => x + y) 827), (827, s_sld L xs 828), (828, s_aload 0 829), (829, s_iload 3 830), (830, s_pushi 2 831), (831, s_bin (fun x y => x + y) 832), (832, s_sld L xs 833), (833, s_aload 0 834), (834, s_iload 3 835), (835, s_pushi 3 836), (836, s_bin (fun x y => x + y) 837), (837, s_sld L xs 838), (838, s_inv mX5_dawn 5 3 841), (841, s_icmp (fun x y => x = y) 1660 844), (844, s_pushi 0 845)]
set_option maxRecDepth 20000 in
theorem zL_19 (L : Nat) (xs : Nat → Int32) : ∀ q ∈ kL_19 L xs, SndG (some (L, xs)) RL cL_law 4 lawRet room_1 q.1 q.2 :=
  fm (z_aload_n (j := 1) (by decide +kernel) rfl) (
  fm (z_aload_n (j := 0) (by decide +kernel) rfl) (
  fm (z_iload_n (j := 3) (by decide +kernel) rfl) (
  fm (z_iconst (n := 1) (by decide +kernel) (by decide)) (
  fm (z_iadd (by decide +kernel)) (
  fm (z_sld (show decode cL_law 808 = .ok (.iaload, 1) from by decide +kernel)) (
  fm (z_aload_n (j := 0) (by decide +kernel) rfl) (
  fm (z_iload_n (j := 3) (by decide +kernel) rfl) (
  fm (z_iconst (n := 2) (by decide +kernel) (by decide)) (
  fm (z_iadd (by decide +kernel)) (
  fm (z_sld (show decode cL_law 813 = .ok (.iaload, 1) from by decide +kernel)) (
  fm (z_aload_n (j := 0) (by decide +kernel) rfl) (
  fm (z_iload_n (j := 3) (by decide +kernel) rfl) (
  fm (z_iconst (n := 3) (by decide +kernel) (by decide)) (
  fm (z_iadd (by decide +kernel)) (
  fm (z_sld (show decode cL_law 818 = .ok (.iaload, 1) from by decide +kernel)) (
  fm (z_inv (idx := 94) rfl (by decide +kernel) wd_2_153 wd_2_154 wd_2_155 wd_1_1 wd_2_156 (by decide +kernel) ⟨Nat.le_of_ble_eq_true rfl, Nat.le_of_ble_eq_true rfl⟩) (
  fm (z_aload_n (j := 2) (by decide +kernel) rfl) (
  fm (z_aload_n (j := 0) (by decide +kernel) rfl) (
  fm (z_iload_n (j := 3) (by decide +kernel) rfl) (
  fm (z_iconst (n := 1) (by decide +kernel) (by decide)) (
  fm (z_iadd (by decide +kernel)) (
  fm (z_sld (show decode cL_law 827 = .ok (.iaload, 1) from by decide +kernel)) (
  fm (z_aload_n (j := 0) (by decide +kernel) rfl) (
  fm (z_iload_n (j := 3) (by decide +kernel) rfl) (
  fm (z_iconst (n := 2) (by decide +kernel) (by decide)) (
  fm (z_iadd (by decide +kernel)) (
  fm (z_sld (show decode cL_law 832 = .ok (.iaload, 1) from by decide +kernel)) (
  fm (z_aload_n (j := 0) (by decide +kernel) rfl) (
  fm (z_iload_n (j := 3) (by decide +kernel) rfl) (
  fm (z_iconst (n := 3) (by decide +kernel) (by decide)) (
  fm (z_iadd (by decide +kernel)) (
  fm (z_sld (show decode cL_law 837 = .ok (.iaload, 1) from by decide +kernel)) (
  fm (z_inv (idx := 97) rfl (by decide +kernel) wd_5_31 wd_5_32 wd_5_33 wd_1_7 wd_5_34 (by decide +kernel) ⟨Nat.le_of_ble_eq_true rfl, Nat.le_of_ble_eq_true rfl⟩) (
  fm (z_icmp_eq (off := 819) (by decide +kernel) (by decide)) (
  fm (z_iconst (n := 0) (by decide +kernel) (by decide)) (fn))))))))))))))))))))))))))))))))))))
def kL_20 (L : Nat) (xs : Nat → Int32) : Cd := [(846, s_aload 1 847), (847, s_aload 0 848), (848, s_iload 3 849), (849, s_pushi 1 850), (850, s_bin (fun x y => x + y) 851), (851, s_sld L xs 852), (852, s_aload 0 853), (853, s_iload 3 854), (854, s_pushi 2 855), (855, s_bin (fun x y => x + y) 856), (856, s_sld L xs 857), (857, s_inv mX4_throwAway 4 2 860), (860, s_aload 2 861), (861, s_aload 0 862), (862, s_iload 3 863), (863, s_pushi 1 864), (864, s_bin (fun x y => x + y) 865), (865, s_sld L xs 866), (866, s_aload 0 867), (867, s_iload 3 868), (868, s_pushi 2 869), (869, s_bin (fun x y => x + y) 870), (870, s_sld L xs 871), (871, s_inv mX5_throwAway 5 2 874), (874, s_icmp (fun x y => x = y) 1660 877), (877, s_pushi 0 878)]
set_option maxRecDepth 20000 in
theorem zL_20 (L : Nat) (xs : Nat → Int32) : ∀ q ∈ kL_20 L xs, SndG (some (L, xs)) RL cL_law 4 lawRet room_1 q.1 q.2 :=
  fm (z_aload_n (j := 1) (by decide +kernel) rfl) (
  fm (z_aload_n (j := 0) (by decide +kernel) rfl) (
  fm (z_iload_n (j := 3) (by decide +kernel) rfl) (
  fm (z_iconst (n := 1) (by decide +kernel) (by decide)) (
  fm (z_iadd (by decide +kernel)) (
  fm (z_sld (show decode cL_law 851 = .ok (.iaload, 1) from by decide +kernel)) (
  fm (z_aload_n (j := 0) (by decide +kernel) rfl) (
  fm (z_iload_n (j := 3) (by decide +kernel) rfl) (
  fm (z_iconst (n := 2) (by decide +kernel) (by decide)) (
  fm (z_iadd (by decide +kernel)) (
  fm (z_sld (show decode cL_law 856 = .ok (.iaload, 1) from by decide +kernel)) (
  fm (z_inv (idx := 98) rfl (by decide +kernel) wd_2_157 wd_2_158 wd_2_159 wd_1_1 wd_2_160 (by decide +kernel) ⟨Nat.le_of_ble_eq_true rfl, Nat.le_of_ble_eq_true rfl⟩) (
  fm (z_aload_n (j := 2) (by decide +kernel) rfl) (
  fm (z_aload_n (j := 0) (by decide +kernel) rfl) (
  fm (z_iload_n (j := 3) (by decide +kernel) rfl) (
  fm (z_iconst (n := 1) (by decide +kernel) (by decide)) (
  fm (z_iadd (by decide +kernel)) (
  fm (z_sld (show decode cL_law 865 = .ok (.iaload, 1) from by decide +kernel)) (
  fm (z_aload_n (j := 0) (by decide +kernel) rfl) (
  fm (z_iload_n (j := 3) (by decide +kernel) rfl) (
  fm (z_iconst (n := 2) (by decide +kernel) (by decide)) (
  fm (z_iadd (by decide +kernel)) (
  fm (z_sld (show decode cL_law 870 = .ok (.iaload, 1) from by decide +kernel)) (
  fm (z_inv (idx := 101) rfl (by decide +kernel) wd_5_35 wd_5_36 wd_5_37 wd_1_7 wd_5_38 (by decide +kernel) ⟨Nat.le_of_ble_eq_true rfl, Nat.le_of_ble_eq_true rfl⟩) (
  fm (z_icmp_eq (off := 786) (by decide +kernel) (by decide)) (
  fm (z_iconst (n := 0) (by decide +kernel) (by decide)) (fn))))))))))))))))))))))))))
def kL_21 (L : Nat) (xs : Nat → Int32) : Cd := [(879, s_aload 1 880), (880, s_aload 0 881), (881, s_iload 3 882), (882, s_pushi 1 883), (883, s_bin (fun x y => x + y) 884), (884, s_sld L xs 885), (885, s_aload 0 886), (886, s_iload 3 887), (887, s_pushi 2 888), (888, s_bin (fun x y => x + y) 889), (889, s_sld L xs 890), (890, s_inv mX4_wishes 4 2 893), (893, s_aload 2 894), (894, s_aload 0 895), (895, s_iload 3 896), (896, s_pushi 1 897), (897, s_bin (fun x y => x + y) 898), (898, s_sld L xs 899), (899, s_aload 0 900), (900, s_iload 3 901), (901, s_pushi 2 902), (902, s_bin (fun x y => x + y) 903), (903, s_sld L xs 904), (904, s_inv mX5_wishes 5 2 907), (907, s_icmp (fun x y => x = y) 1660 910), (910, s_pushi 0 911)]
set_option maxRecDepth 20000 in
theorem zL_21 (L : Nat) (xs : Nat → Int32) : ∀ q ∈ kL_21 L xs, SndG (some (L, xs)) RL cL_law 4 lawRet room_1 q.1 q.2 :=
  fm (z_aload_n (j := 1) (by decide +kernel) rfl) (
  fm (z_aload_n (j := 0) (by decide +kernel) rfl) (
  fm (z_iload_n (j := 3) (by decide +kernel) rfl) (
  fm (z_iconst (n := 1) (by decide +kernel) (by decide)) (
  fm (z_iadd (by decide +kernel)) (
  fm (z_sld (show decode cL_law 884 = .ok (.iaload, 1) from by decide +kernel)) (
  fm (z_aload_n (j := 0) (by decide +kernel) rfl) (
  fm (z_iload_n (j := 3) (by decide +kernel) rfl) (
  fm (z_iconst (n := 2) (by decide +kernel) (by decide)) (
  fm (z_iadd (by decide +kernel)) (
  fm (z_sld (show decode cL_law 889 = .ok (.iaload, 1) from by decide +kernel)) (
  fm (z_inv (idx := 102) rfl (by decide +kernel) wd_2_161 wd_2_162 wd_2_163 wd_1_1 wd_2_164 (by decide +kernel) ⟨Nat.le_of_ble_eq_true rfl, Nat.le_of_ble_eq_true rfl⟩) (
  fm (z_aload_n (j := 2) (by decide +kernel) rfl) (
  fm (z_aload_n (j := 0) (by decide +kernel) rfl) (
  fm (z_iload_n (j := 3) (by decide +kernel) rfl) (
  fm (z_iconst (n := 1) (by decide +kernel) (by decide)) (
  fm (z_iadd (by decide +kernel)) (
  fm (z_sld (show decode cL_law 898 = .ok (.iaload, 1) from by decide +kernel)) (
  fm (z_aload_n (j := 0) (by decide +kernel) rfl) (
  fm (z_iload_n (j := 3) (by decide +kernel) rfl) (
  fm (z_iconst (n := 2) (by decide +kernel) (by decide)) (
  fm (z_iadd (by decide +kernel)) (
  fm (z_sld (show decode cL_law 903 = .ok (.iaload, 1) from by decide +kernel)) (
  fm (z_inv (idx := 105) rfl (by decide +kernel) wd_5_46 wd_5_47 wd_5_48 wd_1_7 wd_5_49 (by decide +kernel) ⟨Nat.le_of_ble_eq_true rfl, Nat.le_of_ble_eq_true rfl⟩) (
  fm (z_icmp_eq (off := 753) (by decide +kernel) (by decide)) (
  fm (z_iconst (n := 0) (by decide +kernel) (by decide)) (fn))))))))))))))))))))))))))
def kL_22 (L : Nat) (xs : Nat → Int32) : Cd := [(912, s_aload 1 913), (913, s_aload 0 914), (914, s_iload 3 915), (915, s_pushi 1 916), (916, s_bin (fun x y => x + y) 917), (917, s_sld L xs 918), (918, s_inv mX4_deal 4 1 921), (921, s_aload 2 922), (922, s_aload 0 923), (923, s_iload 3 924), (924, s_pushi 1 925), (925, s_bin (fun x y => x + y) 926), (926, s_sld L xs 927), (927, s_inv mX5_deal 5 1 930), (930, s_icmp (fun x y => x = y) 1660 933), (933, s_pushi 0 934)]
set_option maxRecDepth 20000 in
theorem zL_22 (L : Nat) (xs : Nat → Int32) : ∀ q ∈ kL_22 L xs, SndG (some (L, xs)) RL cL_law 4 lawRet room_1 q.1 q.2 :=
  fm (z_aload_n (j := 1) (by decide +kernel) rfl) (
  fm (z_aload_n (j := 0) (by decide +kernel) rfl) (
  fm (z_iload_n (j := 3) (by decide +kernel) rfl) (
  fm (z_iconst (n := 1) (by decide +kernel) (by decide)) (
  fm (z_iadd (by decide +kernel)) (
  fm (z_sld (show decode cL_law 917 = .ok (.iaload, 1) from by decide +kernel)) (
  fm (z_inv (idx := 106) rfl (by decide +kernel) wd_2_169 wd_2_170 wd_2_171 wd_1_1 wd_2_172 (by decide +kernel) ⟨Nat.le_of_ble_eq_true rfl, Nat.le_of_ble_eq_true rfl⟩) (
  fm (z_aload_n (j := 2) (by decide +kernel) rfl) (
  fm (z_aload_n (j := 0) (by decide +kernel) rfl) (
  fm (z_iload_n (j := 3) (by decide +kernel) rfl) (
  fm (z_iconst (n := 1) (by decide +kernel) (by decide)) (
  fm (z_iadd (by decide +kernel)) (
  fm (z_sld (show decode cL_law 926 = .ok (.iaload, 1) from by decide +kernel)) (
  fm (z_inv (idx := 109) rfl (by decide +kernel) wd_5_50 wd_5_51 wd_5_52 wd_1_7 wd_5_53 (by decide +kernel) ⟨Nat.le_of_ble_eq_true rfl, Nat.le_of_ble_eq_true rfl⟩) (
  fm (z_icmp_eq (off := 730) (by decide +kernel) (by decide)) (
  fm (z_iconst (n := 0) (by decide +kernel) (by decide)) (fn))))))))))))))))
def kL_23 (L : Nat) (xs : Nat → Int32) : Cd := [(935, s_aload 1 936), (936, s_aload 0 937), (937, s_iload 3 938), (938, s_pushi 1 939), (939, s_bin (fun x y => x + y) 940), (940, s_sld L xs 941), (941, s_inv mX4_beside 4 1 944), (944, s_aload 2 945), (945, s_aload 0 946), (946, s_iload 3 947), (947, s_pushi 1 948), (948, s_bin (fun x y => x + y) 949), (949, s_sld L xs 950), (950, s_inv mX5_beside 5 1 953), (953, s_icmp (fun x y => x = y) 1660 956), (956, s_pushi 0 957)]
set_option maxRecDepth 20000 in
theorem zL_23 (L : Nat) (xs : Nat → Int32) : ∀ q ∈ kL_23 L xs, SndG (some (L, xs)) RL cL_law 4 lawRet room_1 q.1 q.2 :=
  fm (z_aload_n (j := 1) (by decide +kernel) rfl) (
  fm (z_aload_n (j := 0) (by decide +kernel) rfl) (
  fm (z_iload_n (j := 3) (by decide +kernel) rfl) (
  fm (z_iconst (n := 1) (by decide +kernel) (by decide)) (
  fm (z_iadd (by decide +kernel)) (
  fm (z_sld (show decode cL_law 940 = .ok (.iaload, 1) from by decide +kernel)) (
  fm (z_inv (idx := 110) rfl (by decide +kernel) wd_2_174 wd_2_175 wd_2_176 wd_1_1 wd_2_177 (by decide +kernel) ⟨Nat.le_of_ble_eq_true rfl, Nat.le_of_ble_eq_true rfl⟩) (
  fm (z_aload_n (j := 2) (by decide +kernel) rfl) (
  fm (z_aload_n (j := 0) (by decide +kernel) rfl) (
  fm (z_iload_n (j := 3) (by decide +kernel) rfl) (
  fm (z_iconst (n := 1) (by decide +kernel) (by decide)) (
  fm (z_iadd (by decide +kernel)) (
  fm (z_sld (show decode cL_law 949 = .ok (.iaload, 1) from by decide +kernel)) (
  fm (z_inv (idx := 113) rfl (by decide +kernel) wd_5_54 wd_5_55 wd_5_56 wd_1_7 wd_5_57 (by decide +kernel) ⟨Nat.le_of_ble_eq_true rfl, Nat.le_of_ble_eq_true rfl⟩) (
  fm (z_icmp_eq (off := 707) (by decide +kernel) (by decide)) (
  fm (z_iconst (n := 0) (by decide +kernel) (by decide)) (fn))))))))))))))))
def kL_24 (L : Nat) (xs : Nat → Int32) : Cd := [(958, s_aload 1 959), (959, s_aload 0 960), (960, s_iload 3 961), (961, s_pushi 1 962), (962, s_bin (fun x y => x + y) 963), (963, s_sld L xs 964), (964, s_aload 0 965), (965, s_iload 3 966), (966, s_pushi 2 967), (967, s_bin (fun x y => x + y) 968), (968, s_sld L xs 969), (969, s_inv mX4_ever 4 2 972), (972, s_aload 2 973), (973, s_aload 0 974), (974, s_iload 3 975), (975, s_pushi 1 976), (976, s_bin (fun x y => x + y) 977), (977, s_sld L xs 978), (978, s_aload 0 979), (979, s_iload 3 980), (980, s_pushi 2 981), (981, s_bin (fun x y => x + y) 982), (982, s_sld L xs 983), (983, s_inv mX5_ever 5 2 986), (986, s_icmp (fun x y => x = y) 1660 989), (989, s_pushi 0 990)]
set_option maxRecDepth 20000 in
theorem zL_24 (L : Nat) (xs : Nat → Int32) : ∀ q ∈ kL_24 L xs, SndG (some (L, xs)) RL cL_law 4 lawRet room_1 q.1 q.2 :=
  fm (z_aload_n (j := 1) (by decide +kernel) rfl) (
  fm (z_aload_n (j := 0) (by decide +kernel) rfl) (
  fm (z_iload_n (j := 3) (by decide +kernel) rfl) (
  fm (z_iconst (n := 1) (by decide +kernel) (by decide)) (
  fm (z_iadd (by decide +kernel)) (
  fm (z_sld (show decode cL_law 963 = .ok (.iaload, 1) from by decide +kernel)) (
  fm (z_aload_n (j := 0) (by decide +kernel) rfl) (
  fm (z_iload_n (j := 3) (by decide +kernel) rfl) (
  fm (z_iconst (n := 2) (by decide +kernel) (by decide)) (
  fm (z_iadd (by decide +kernel)) (
  fm (z_sld (show decode cL_law 968 = .ok (.iaload, 1) from by decide +kernel)) (
  fm (z_inv (idx := 114) rfl (by decide +kernel) wd_2_189 wd_2_190 wd_2_191 wd_1_1 wd_2_192 (by decide +kernel) ⟨Nat.le_of_ble_eq_true rfl, Nat.le_of_ble_eq_true rfl⟩) (
  fm (z_aload_n (j := 2) (by decide +kernel) rfl) (
  fm (z_aload_n (j := 0) (by decide +kernel) rfl) (
  fm (z_iload_n (j := 3) (by decide +kernel) rfl) (
  fm (z_iconst (n := 1) (by decide +kernel) (by decide)) (
  fm (z_iadd (by decide +kernel)) (
  fm (z_sld (show decode cL_law 977 = .ok (.iaload, 1) from by decide +kernel)) (
  fm (z_aload_n (j := 0) (by decide +kernel) rfl) (
  fm (z_iload_n (j := 3) (by decide +kernel) rfl) (
  fm (z_iconst (n := 2) (by decide +kernel) (by decide)) (
  fm (z_iadd (by decide +kernel)) (
  fm (z_sld (show decode cL_law 982 = .ok (.iaload, 1) from by decide +kernel)) (
  fm (z_inv (idx := 117) rfl (by decide +kernel) wd_5_66 wd_5_67 wd_5_68 wd_1_7 wd_5_69 (by decide +kernel) ⟨Nat.le_of_ble_eq_true rfl, Nat.le_of_ble_eq_true rfl⟩) (
  fm (z_icmp_eq (off := 674) (by decide +kernel) (by decide)) (
  fm (z_iconst (n := 0) (by decide +kernel) (by decide)) (fn))))))))))))))))))))))))))
def kL_25 (L : Nat) (xs : Nat → Int32) : Cd := [(991, s_aload 1 992), (992, s_aload 0 993), (993, s_iload 3 994), (994, s_pushi 1 995), (995, s_bin (fun x y => x + y) 996), (996, s_sld L xs 997), (997, s_aload 0 998), (998, s_iload 3 999), (999, s_pushi 2 1000), (1000, s_bin (fun x y => x + y) 1001), (1001, s_sld L xs 1002), (1002, s_inv mX4_meet 4 2 1005), (1005, s_aload 2 1006), (1006, s_aload 0 1007), (1007, s_iload 3 1008), (1008, s_pushi 1 1009), (1009, s_bin (fun x y => x + y) 1010), (1010, s_sld L xs 1011), (1011, s_aload 0 1012), (1012, s_iload 3 1013), (1013, s_pushi 2 1014), (1014, s_bin (fun x y => x + y) 1015), (1015, s_sld L xs 1016), (1016, s_inv mX5_meet 5 2 1019), (1019, s_icmp (fun x y => x = y) 1660 1022), (1022, s_pushi 0 1023)]
set_option maxRecDepth 20000 in
theorem zL_25 (L : Nat) (xs : Nat → Int32) : ∀ q ∈ kL_25 L xs, SndG (some (L, xs)) RL cL_law 4 lawRet room_1 q.1 q.2 :=
  fm (z_aload_n (j := 1) (by decide +kernel) rfl) (
  fm (z_aload_n (j := 0) (by decide +kernel) rfl) (
  fm (z_iload_n (j := 3) (by decide +kernel) rfl) (
  fm (z_iconst (n := 1) (by decide +kernel) (by decide)) (
  fm (z_iadd (by decide +kernel)) (
  fm (z_sld (show decode cL_law 996 = .ok (.iaload, 1) from by decide +kernel)) (
  fm (z_aload_n (j := 0) (by decide +kernel) rfl) (
  fm (z_iload_n (j := 3) (by decide +kernel) rfl) (
  fm (z_iconst (n := 2) (by decide +kernel) (by decide)) (
  fm (z_iadd (by decide +kernel)) (
  fm (z_sld (show decode cL_law 1001 = .ok (.iaload, 1) from by decide +kernel)) (
  fm (z_inv (idx := 118) rfl (by decide +kernel) wd_2_193 wd_2_194 wd_2_195 wd_1_1 wd_2_196 (by decide +kernel) ⟨Nat.le_of_ble_eq_true rfl, Nat.le_of_ble_eq_true rfl⟩) (
  fm (z_aload_n (j := 2) (by decide +kernel) rfl) (
  fm (z_aload_n (j := 0) (by decide +kernel) rfl) (
  fm (z_iload_n (j := 3) (by decide +kernel) rfl) (
  fm (z_iconst (n := 1) (by decide +kernel) (by decide)) (
  fm (z_iadd (by decide +kernel)) (
  fm (z_sld (show decode cL_law 1010 = .ok (.iaload, 1) from by decide +kernel)) (
  fm (z_aload_n (j := 0) (by decide +kernel) rfl) (
  fm (z_iload_n (j := 3) (by decide +kernel) rfl) (
  fm (z_iconst (n := 2) (by decide +kernel) (by decide)) (
  fm (z_iadd (by decide +kernel)) (
  fm (z_sld (show decode cL_law 1015 = .ok (.iaload, 1) from by decide +kernel)) (
  fm (z_inv (idx := 121) rfl (by decide +kernel) wd_5_70 wd_5_71 wd_5_72 wd_1_7 wd_5_73 (by decide +kernel) ⟨Nat.le_of_ble_eq_true rfl, Nat.le_of_ble_eq_true rfl⟩) (
  fm (z_icmp_eq (off := 641) (by decide +kernel) (by decide)) (
  fm (z_iconst (n := 0) (by decide +kernel) (by decide)) (fn))))))))))))))))))))))))))
def kL_26 (L : Nat) (xs : Nat → Int32) : Cd := [(1024, s_aload 1 1025), (1025, s_aload 0 1026), (1026, s_iload 3 1027), (1027, s_pushi 1 1028), (1028, s_bin (fun x y => x + y) 1029), (1029, s_sld L xs 1030), (1030, s_aload 0 1031), (1031, s_iload 3 1032), (1032, s_pushi 2 1033), (1033, s_bin (fun x y => x + y) 1034), (1034, s_sld L xs 1035), (1035, s_aload 0 1036), (1036, s_iload 3 1037), (1037, s_pushi 3 1038), (1038, s_bin (fun x y => x + y) 1039), (1039, s_sld L xs 1040), (1040, s_inv mX4_never 4 3 1043), (1043, s_aload 2 1044), (1044, s_aload 0 1045), (1045, s_iload 3 1046), (1046, s_pushi 1 1047), (1047, s_bin (fun x y => x + y) 1048), (1048, s_sld L xs 1049), (1049, s_aload 0 1050), (1050, s_iload 3 1051), (1051, s_pushi 2 1052), (1052, s_bin (fun x y => x + y) 1053), (1053, s_sld L xs 1054), (1054, s_aload 0 1055), (1055, s_iload 3 1056), (1056, s_pushi 3 1057), (1057, s_bin (fun x y => x + y) 1058), (1058, s_sld L xs 1059), (1059, s_inv mX5_never 5 3 1062), (1062, s_icmp (fun x y => x = y) 1660 1065), (1065, s_pushi 0 1066)]
set_option maxRecDepth 20000 in
theorem zL_26 (L : Nat) (xs : Nat → Int32) : ∀ q ∈ kL_26 L xs, SndG (some (L, xs)) RL cL_law 4 lawRet room_1 q.1 q.2 :=
  fm (z_aload_n (j := 1) (by decide +kernel) rfl) (
  fm (z_aload_n (j := 0) (by decide +kernel) rfl) (
  fm (z_iload_n (j := 3) (by decide +kernel) rfl) (
  fm (z_iconst (n := 1) (by decide +kernel) (by decide)) (
  fm (z_iadd (by decide +kernel)) (
  fm (z_sld (show decode cL_law 1029 = .ok (.iaload, 1) from by decide +kernel)) (
  fm (z_aload_n (j := 0) (by decide +kernel) rfl) (
  fm (z_iload_n (j := 3) (by decide +kernel) rfl) (
  fm (z_iconst (n := 2) (by decide +kernel) (by decide)) (
  fm (z_iadd (by decide +kernel)) (
  fm (z_sld (show decode cL_law 1034 = .ok (.iaload, 1) from by decide +kernel)) (
  fm (z_aload_n (j := 0) (by decide +kernel) rfl) (
  fm (z_iload_n (j := 3) (by decide +kernel) rfl) (
  fm (z_iconst (n := 3) (by decide +kernel) (by decide)) (
  fm (z_iadd (by decide +kernel)) (
  fm (z_sld (show decode cL_law 1039 = .ok (.iaload, 1) from by decide +kernel)) (
  fm (z_inv (idx := 122) rfl (by decide +kernel) wd_2_206 wd_2_207 wd_2_208 wd_1_1 wd_2_209 (by decide +kernel) ⟨Nat.le_of_ble_eq_true rfl, Nat.le_of_ble_eq_true rfl⟩) (
  fm (z_aload_n (j := 2) (by decide +kernel) rfl) (
  fm (z_aload_n (j := 0) (by decide +kernel) rfl) (
  fm (z_iload_n (j := 3) (by decide +kernel) rfl) (
  fm (z_iconst (n := 1) (by decide +kernel) (by decide)) (
  fm (z_iadd (by decide +kernel)) (
  fm (z_sld (show decode cL_law 1048 = .ok (.iaload, 1) from by decide +kernel)) (
  fm (z_aload_n (j := 0) (by decide +kernel) rfl) (
  fm (z_iload_n (j := 3) (by decide +kernel) rfl) (
  fm (z_iconst (n := 2) (by decide +kernel) (by decide)) (
  fm (z_iadd (by decide +kernel)) (
  fm (z_sld (show decode cL_law 1053 = .ok (.iaload, 1) from by decide +kernel)) (
  fm (z_aload_n (j := 0) (by decide +kernel) rfl) (
  fm (z_iload_n (j := 3) (by decide +kernel) rfl) (
  fm (z_iconst (n := 3) (by decide +kernel) (by decide)) (
  fm (z_iadd (by decide +kernel)) (
  fm (z_sld (show decode cL_law 1058 = .ok (.iaload, 1) from by decide +kernel)) (
  fm (z_inv (idx := 125) rfl (by decide +kernel) wd_5_78 wd_5_79 wd_5_80 wd_1_7 wd_5_81 (by decide +kernel) ⟨Nat.le_of_ble_eq_true rfl, Nat.le_of_ble_eq_true rfl⟩) (
  fm (z_icmp_eq (off := 598) (by decide +kernel) (by decide)) (
  fm (z_iconst (n := 0) (by decide +kernel) (by decide)) (fn))))))))))))))))))))))))))))))))))))
def kL_27 (L : Nat) (xs : Nat → Int32) : Cd := [(1067, s_aload 1 1068), (1068, s_aload 0 1069), (1069, s_iload 3 1070), (1070, s_pushi 1 1071), (1071, s_bin (fun x y => x + y) 1072), (1072, s_sld L xs 1073), (1073, s_aload 0 1074), (1074, s_iload 3 1075), (1075, s_pushi 2 1076), (1076, s_bin (fun x y => x + y) 1077), (1077, s_sld L xs 1078), (1078, s_aload 0 1079), (1079, s_iload 3 1080), (1080, s_pushi 3 1081), (1081, s_bin (fun x y => x + y) 1082), (1082, s_sld L xs 1083), (1083, s_inv mX4_worth 4 3 1086), (1086, s_aload 2 1087), (1087, s_aload 0 1088), (1088, s_iload 3 1089), (1089, s_pushi 1 1090), (1090, s_bin (fun x y => x + y) 1091), (1091, s_sld L xs 1092), (1092, s_aload 0 1093), (1093, s_iload 3 1094), (1094, s_pushi 2 1095), (1095, s_bin (fun x y => x + y) 1096), (1096, s_sld L xs 1097), (1097, s_aload 0 1098), (1098, s_iload 3 1099), (1099, s_pushi 3 1100), (1100, s_bin (fun x y => x + y) 1101), (1101, s_sld L xs 1102), (1102, s_inv mX5_worth 5 3 1105), (1105, s_icmp (fun x y => x = y) 1660 1108), (1108, s_pushi 0 1109)]
set_option maxRecDepth 20000 in
theorem zL_27 (L : Nat) (xs : Nat → Int32) : ∀ q ∈ kL_27 L xs, SndG (some (L, xs)) RL cL_law 4 lawRet room_1 q.1 q.2 :=
  fm (z_aload_n (j := 1) (by decide +kernel) rfl) (
  fm (z_aload_n (j := 0) (by decide +kernel) rfl) (
  fm (z_iload_n (j := 3) (by decide +kernel) rfl) (
  fm (z_iconst (n := 1) (by decide +kernel) (by decide)) (
  fm (z_iadd (by decide +kernel)) (
  fm (z_sld (show decode cL_law 1072 = .ok (.iaload, 1) from by decide +kernel)) (
  fm (z_aload_n (j := 0) (by decide +kernel) rfl) (
  fm (z_iload_n (j := 3) (by decide +kernel) rfl) (
  fm (z_iconst (n := 2) (by decide +kernel) (by decide)) (
  fm (z_iadd (by decide +kernel)) (
  fm (z_sld (show decode cL_law 1077 = .ok (.iaload, 1) from by decide +kernel)) (
  fm (z_aload_n (j := 0) (by decide +kernel) rfl) (
  fm (z_iload_n (j := 3) (by decide +kernel) rfl) (
  fm (z_iconst (n := 3) (by decide +kernel) (by decide)) (
  fm (z_iadd (by decide +kernel)) (
  fm (z_sld (show decode cL_law 1082 = .ok (.iaload, 1) from by decide +kernel)) (
  fm (z_inv (idx := 126) rfl (by decide +kernel) wd_2_210 wd_2_211 wd_2_212 wd_1_1 wd_2_213 (by decide +kernel) ⟨Nat.le_of_ble_eq_true rfl, Nat.le_of_ble_eq_true rfl⟩) (
  fm (z_aload_n (j := 2) (by decide +kernel) rfl) (
  fm (z_aload_n (j := 0) (by decide +kernel) rfl) (
  fm (z_iload_n (j := 3) (by decide +kernel) rfl) (
  fm (z_iconst (n := 1) (by decide +kernel) (by decide)) (
  fm (z_iadd (by decide +kernel)) (
  fm (z_sld (show decode cL_law 1091 = .ok (.iaload, 1) from by decide +kernel)) (
  fm (z_aload_n (j := 0) (by decide +kernel) rfl) (
  fm (z_iload_n (j := 3) (by decide +kernel) rfl) (
  fm (z_iconst (n := 2) (by decide +kernel) (by decide)) (
  fm (z_iadd (by decide +kernel)) (
  fm (z_sld (show decode cL_law 1096 = .ok (.iaload, 1) from by decide +kernel)) (
  fm (z_aload_n (j := 0) (by decide +kernel) rfl) (
  fm (z_iload_n (j := 3) (by decide +kernel) rfl) (
  fm (z_iconst (n := 3) (by decide +kernel) (by decide)) (
  fm (z_iadd (by decide +kernel)) (
  fm (z_sld (show decode cL_law 1101 = .ok (.iaload, 1) from by decide +kernel)) (
  fm (z_inv (idx := 129) rfl (by decide +kernel) wd_5_82 wd_5_83 wd_5_84 wd_1_7 wd_5_85 (by decide +kernel) ⟨Nat.le_of_ble_eq_true rfl, Nat.le_of_ble_eq_true rfl⟩) (
  fm (z_icmp_eq (off := 555) (by decide +kernel) (by decide)) (
  fm (z_iconst (n := 0) (by decide +kernel) (by decide)) (fn))))))))))))))))))))))))))))))))))))
def kL_28 (L : Nat) (xs : Nat → Int32) : Cd := [(1110, s_aload 1 1111), (1111, s_aload 0 1112), (1112, s_iload 3 1113), (1113, s_pushi 1 1114), (1114, s_bin (fun x y => x + y) 1115), (1115, s_sld L xs 1116), (1116, s_aload 0 1117), (1117, s_iload 3 1118), (1118, s_pushi 2 1119), (1119, s_bin (fun x y => x + y) 1120), (1120, s_sld L xs 1121), (1121, s_inv mX4_best 4 2 1124), (1124, s_aload 2 1125), (1125, s_aload 0 1126), (1126, s_iload 3 1127), (1127, s_pushi 1 1128), (1128, s_bin (fun x y => x + y) 1129), (1129, s_sld L xs 1130), (1130, s_aload 0 1131), (1131, s_iload 3 1132), (1132, s_pushi 2 1133), (1133, s_bin (fun x y => x + y) 1134), (1134, s_sld L xs 1135), (1135, s_inv mX5_best 5 2 1138), (1138, s_icmp (fun x y => x = y) 1660 1141), (1141, s_pushi 0 1142)]
set_option maxRecDepth 20000 in
theorem zL_28 (L : Nat) (xs : Nat → Int32) : ∀ q ∈ kL_28 L xs, SndG (some (L, xs)) RL cL_law 4 lawRet room_1 q.1 q.2 :=
  fm (z_aload_n (j := 1) (by decide +kernel) rfl) (
  fm (z_aload_n (j := 0) (by decide +kernel) rfl) (
  fm (z_iload_n (j := 3) (by decide +kernel) rfl) (
  fm (z_iconst (n := 1) (by decide +kernel) (by decide)) (
  fm (z_iadd (by decide +kernel)) (
  fm (z_sld (show decode cL_law 1115 = .ok (.iaload, 1) from by decide +kernel)) (
  fm (z_aload_n (j := 0) (by decide +kernel) rfl) (
  fm (z_iload_n (j := 3) (by decide +kernel) rfl) (
  fm (z_iconst (n := 2) (by decide +kernel) (by decide)) (
  fm (z_iadd (by decide +kernel)) (
  fm (z_sld (show decode cL_law 1120 = .ok (.iaload, 1) from by decide +kernel)) (
  fm (z_inv (idx := 130) rfl (by decide +kernel) wd_2_223 wd_2_224 wd_2_225 wd_1_1 wd_2_226 (by decide +kernel) ⟨Nat.le_of_ble_eq_true rfl, Nat.le_of_ble_eq_true rfl⟩) (
  fm (z_aload_n (j := 2) (by decide +kernel) rfl) (
  fm (z_aload_n (j := 0) (by decide +kernel) rfl) (
  fm (z_iload_n (j := 3) (by decide +kernel) rfl) (
  fm (z_iconst (n := 1) (by decide +kernel) (by decide)) (
  fm (z_iadd (by decide +kernel)) (
  fm (z_sld (show decode cL_law 1129 = .ok (.iaload, 1) from by decide +kernel)) (
  fm (z_aload_n (j := 0) (by decide +kernel) rfl) (
  fm (z_iload_n (j := 3) (by decide +kernel) rfl) (
  fm (z_iconst (n := 2) (by decide +kernel) (by decide)) (
  fm (z_iadd (by decide +kernel)) (
  fm (z_sld (show decode cL_law 1134 = .ok (.iaload, 1) from by decide +kernel)) (
  fm (z_inv (idx := 133) rfl (by decide +kernel) wd_5_90 wd_5_91 wd_5_92 wd_1_7 wd_5_93 (by decide +kernel) ⟨Nat.le_of_ble_eq_true rfl, Nat.le_of_ble_eq_true rfl⟩) (
  fm (z_icmp_eq (off := 522) (by decide +kernel) (by decide)) (
  fm (z_iconst (n := 0) (by decide +kernel) (by decide)) (fn))))))))))))))))))))))))))
def kL_29 (L : Nat) (xs : Nat → Int32) : Cd := [(1143, s_aload 1 1144), (1144, s_aload 0 1145), (1145, s_iload 3 1146), (1146, s_pushi 1 1147), (1147, s_bin (fun x y => x + y) 1148), (1148, s_sld L xs 1149), (1149, s_aload 0 1150), (1150, s_iload 3 1151), (1151, s_pushi 2 1152), (1152, s_bin (fun x y => x + y) 1153), (1153, s_sld L xs 1154), (1154, s_inv mX4_thief 4 2 1157), (1157, s_aload 2 1158), (1158, s_aload 0 1159), (1159, s_iload 3 1160), (1160, s_pushi 1 1161), (1161, s_bin (fun x y => x + y) 1162), (1162, s_sld L xs 1163), (1163, s_aload 0 1164), (1164, s_iload 3 1165), (1165, s_pushi 2 1166), (1166, s_bin (fun x y => x + y) 1167), (1167, s_sld L xs 1168), (1168, s_inv mX5_thief 5 2 1171), (1171, s_icmp (fun x y => x = y) 1660 1174), (1174, s_pushi 0 1175)]
set_option maxRecDepth 20000 in
theorem zL_29 (L : Nat) (xs : Nat → Int32) : ∀ q ∈ kL_29 L xs, SndG (some (L, xs)) RL cL_law 4 lawRet room_1 q.1 q.2 :=
  fm (z_aload_n (j := 1) (by decide +kernel) rfl) (
  fm (z_aload_n (j := 0) (by decide +kernel) rfl) (
  fm (z_iload_n (j := 3) (by decide +kernel) rfl) (
  fm (z_iconst (n := 1) (by decide +kernel) (by decide)) (
  fm (z_iadd (by decide +kernel)) (
  fm (z_sld (show decode cL_law 1148 = .ok (.iaload, 1) from by decide +kernel)) (
  fm (z_aload_n (j := 0) (by decide +kernel) rfl) (
  fm (z_iload_n (j := 3) (by decide +kernel) rfl) (
  fm (z_iconst (n := 2) (by decide +kernel) (by decide)) (
  fm (z_iadd (by decide +kernel)) (
  fm (z_sld (show decode cL_law 1153 = .ok (.iaload, 1) from by decide +kernel)) (
  fm (z_inv (idx := 134) rfl (by decide +kernel) wd_2_227 wd_2_228 wd_2_229 wd_1_1 wd_2_230 (by decide +kernel) ⟨Nat.le_of_ble_eq_true rfl, Nat.le_of_ble_eq_true rfl⟩) (
  fm (z_aload_n (j := 2) (by decide +kernel) rfl) (
  fm (z_aload_n (j := 0) (by decide +kernel) rfl) (
  fm (z_iload_n (j := 3) (by decide +kernel) rfl) (
  fm (z_iconst (n := 1) (by decide +kernel) (by decide)) (
  fm (z_iadd (by decide +kernel)) (
  fm (z_sld (show decode cL_law 1162 = .ok (.iaload, 1) from by decide +kernel)) (
  fm (z_aload_n (j := 0) (by decide +kernel) rfl) (
  fm (z_iload_n (j := 3) (by decide +kernel) rfl) (
  fm (z_iconst (n := 2) (by decide +kernel) (by decide)) (
  fm (z_iadd (by decide +kernel)) (
  fm (z_sld (show decode cL_law 1167 = .ok (.iaload, 1) from by decide +kernel)) (
  fm (z_inv (idx := 137) rfl (by decide +kernel) wd_5_94 wd_5_95 wd_5_96 wd_1_7 wd_5_97 (by decide +kernel) ⟨Nat.le_of_ble_eq_true rfl, Nat.le_of_ble_eq_true rfl⟩) (
  fm (z_icmp_eq (off := 489) (by decide +kernel) (by decide)) (
  fm (z_iconst (n := 0) (by decide +kernel) (by decide)) (fn))))))))))))))))))))))))))
def kL_30 (L : Nat) (xs : Nat → Int32) : Cd := [(1176, s_aload 1 1177), (1177, s_aload 0 1178), (1178, s_iload 3 1179), (1179, s_pushi 1 1180), (1180, s_bin (fun x y => x + y) 1181), (1181, s_sld L xs 1182), (1182, s_inv mX4_lots 4 1 1185), (1185, s_aload 2 1186), (1186, s_aload 0 1187), (1187, s_iload 3 1188), (1188, s_pushi 1 1189), (1189, s_bin (fun x y => x + y) 1190), (1190, s_sld L xs 1191), (1191, s_inv mX5_lots 5 1 1194), (1194, s_icmp (fun x y => x = y) 1660 1197), (1197, s_pushi 0 1198)]
set_option maxRecDepth 20000 in
theorem zL_30 (L : Nat) (xs : Nat → Int32) : ∀ q ∈ kL_30 L xs, SndG (some (L, xs)) RL cL_law 4 lawRet room_1 q.1 q.2 :=
  fm (z_aload_n (j := 1) (by decide +kernel) rfl) (
  fm (z_aload_n (j := 0) (by decide +kernel) rfl) (
  fm (z_iload_n (j := 3) (by decide +kernel) rfl) (
  fm (z_iconst (n := 1) (by decide +kernel) (by decide)) (
  fm (z_iadd (by decide +kernel)) (
  fm (z_sld (show decode cL_law 1181 = .ok (.iaload, 1) from by decide +kernel)) (
  fm (z_inv (idx := 138) rfl (by decide +kernel) wd_2_231 wd_2_232 wd_2_233 wd_1_1 wd_2_234 (by decide +kernel) ⟨Nat.le_of_ble_eq_true rfl, Nat.le_of_ble_eq_true rfl⟩) (
  fm (z_aload_n (j := 2) (by decide +kernel) rfl) (
  fm (z_aload_n (j := 0) (by decide +kernel) rfl) (
  fm (z_iload_n (j := 3) (by decide +kernel) rfl) (
  fm (z_iconst (n := 1) (by decide +kernel) (by decide)) (
  fm (z_iadd (by decide +kernel)) (
  fm (z_sld (show decode cL_law 1190 = .ok (.iaload, 1) from by decide +kernel)) (
  fm (z_inv (idx := 141) rfl (by decide +kernel) wd_5_98 wd_5_99 wd_5_100 wd_1_7 wd_5_101 (by decide +kernel) ⟨Nat.le_of_ble_eq_true rfl, Nat.le_of_ble_eq_true rfl⟩) (
  fm (z_icmp_eq (off := 466) (by decide +kernel) (by decide)) (
  fm (z_iconst (n := 0) (by decide +kernel) (by decide)) (fn))))))))))))))))
def kL_31 (L : Nat) (xs : Nat → Int32) : Cd := [(1199, s_aload 1 1200), (1200, s_aload 0 1201), (1201, s_iload 3 1202), (1202, s_pushi 1 1203), (1203, s_bin (fun x y => x + y) 1204), (1204, s_sld L xs 1205), (1205, s_inv mX4_seed 4 1 1208), (1208, s_aload 2 1209), (1209, s_aload 0 1210), (1210, s_iload 3 1211), (1211, s_pushi 1 1212), (1212, s_bin (fun x y => x + y) 1213), (1213, s_sld L xs 1214), (1214, s_inv mX5_seed 5 1 1217), (1217, s_icmp (fun x y => x = y) 1660 1220), (1220, s_pushi 0 1221)]
set_option maxRecDepth 20000 in
theorem zL_31 (L : Nat) (xs : Nat → Int32) : ∀ q ∈ kL_31 L xs, SndG (some (L, xs)) RL cL_law 4 lawRet room_1 q.1 q.2 :=
  fm (z_aload_n (j := 1) (by decide +kernel) rfl) (
  fm (z_aload_n (j := 0) (by decide +kernel) rfl) (
  fm (z_iload_n (j := 3) (by decide +kernel) rfl) (
  fm (z_iconst (n := 1) (by decide +kernel) (by decide)) (
  fm (z_iadd (by decide +kernel)) (
  fm (z_sld (show decode cL_law 1204 = .ok (.iaload, 1) from by decide +kernel)) (
  fm (z_inv (idx := 142) rfl (by decide +kernel) wd_3_0 wd_3_1 wd_3_2 wd_1_1 wd_3_3 (by decide +kernel) ⟨Nat.le_of_ble_eq_true rfl, Nat.le_of_ble_eq_true rfl⟩) (
  fm (z_aload_n (j := 2) (by decide +kernel) rfl) (
  fm (z_aload_n (j := 0) (by decide +kernel) rfl) (
  fm (z_iload_n (j := 3) (by decide +kernel) rfl) (
  fm (z_iconst (n := 1) (by decide +kernel) (by decide)) (
  fm (z_iadd (by decide +kernel)) (
  fm (z_sld (show decode cL_law 1213 = .ok (.iaload, 1) from by decide +kernel)) (
  fm (z_inv (idx := 145) rfl (by decide +kernel) wd_5_108 wd_5_109 wd_5_110 wd_1_7 wd_5_111 (by decide +kernel) ⟨Nat.le_of_ble_eq_true rfl, Nat.le_of_ble_eq_true rfl⟩) (
  fm (z_icmp_eq (off := 443) (by decide +kernel) (by decide)) (
  fm (z_iconst (n := 0) (by decide +kernel) (by decide)) (fn))))))))))))))))
def kL_32 (L : Nat) (xs : Nat → Int32) : Cd := [(1222, s_aload 1 1223), (1223, s_aload 0 1224), (1224, s_iload 3 1225), (1225, s_pushi 1 1226), (1226, s_bin (fun x y => x + y) 1227), (1227, s_sld L xs 1228), (1228, s_aload 0 1229), (1229, s_iload 3 1230), (1230, s_pushi 2 1231), (1231, s_bin (fun x y => x + y) 1232), (1232, s_sld L xs 1233), (1233, s_inv mX4_feed 4 2 1236), (1236, s_aload 2 1237), (1237, s_aload 0 1238), (1238, s_iload 3 1239), (1239, s_pushi 1 1240), (1240, s_bin (fun x y => x + y) 1241), (1241, s_sld L xs 1242), (1242, s_aload 0 1243), (1243, s_iload 3 1244), (1244, s_pushi 2 1245), (1245, s_bin (fun x y => x + y) 1246), (1246, s_sld L xs 1247), (1247, s_inv mX5_feed 5 2 1250), (1250, s_icmp (fun x y => x = y) 1660 1253), (1253, s_pushi 0 1254)]
set_option maxRecDepth 20000 in
theorem zL_32 (L : Nat) (xs : Nat → Int32) : ∀ q ∈ kL_32 L xs, SndG (some (L, xs)) RL cL_law 4 lawRet room_1 q.1 q.2 :=
  fm (z_aload_n (j := 1) (by decide +kernel) rfl) (
  fm (z_aload_n (j := 0) (by decide +kernel) rfl) (
  fm (z_iload_n (j := 3) (by decide +kernel) rfl) (
  fm (z_iconst (n := 1) (by decide +kernel) (by decide)) (
  fm (z_iadd (by decide +kernel)) (
  fm (z_sld (show decode cL_law 1227 = .ok (.iaload, 1) from by decide +kernel)) (
  fm (z_aload_n (j := 0) (by decide +kernel) rfl) (
  fm (z_iload_n (j := 3) (by decide +kernel) rfl) (
  fm (z_iconst (n := 2) (by decide +kernel) (by decide)) (
  fm (z_iadd (by decide +kernel)) (
  fm (z_sld (show decode cL_law 1232 = .ok (.iaload, 1) from by decide +kernel)) (
  fm (z_inv (idx := 146) rfl (by decide +kernel) wd_3_4 wd_3_5 wd_3_6 wd_1_1 wd_3_7 (by decide +kernel) ⟨Nat.le_of_ble_eq_true rfl, Nat.le_of_ble_eq_true rfl⟩) (
  fm (z_aload_n (j := 2) (by decide +kernel) rfl) (
  fm (z_aload_n (j := 0) (by decide +kernel) rfl) (
  fm (z_iload_n (j := 3) (by decide +kernel) rfl) (
  fm (z_iconst (n := 1) (by decide +kernel) (by decide)) (
  fm (z_iadd (by decide +kernel)) (
  fm (z_sld (show decode cL_law 1241 = .ok (.iaload, 1) from by decide +kernel)) (
  fm (z_aload_n (j := 0) (by decide +kernel) rfl) (
  fm (z_iload_n (j := 3) (by decide +kernel) rfl) (
  fm (z_iconst (n := 2) (by decide +kernel) (by decide)) (
  fm (z_iadd (by decide +kernel)) (
  fm (z_sld (show decode cL_law 1246 = .ok (.iaload, 1) from by decide +kernel)) (
  fm (z_inv (idx := 149) rfl (by decide +kernel) wd_5_112 wd_5_113 wd_5_114 wd_1_7 wd_5_115 (by decide +kernel) ⟨Nat.le_of_ble_eq_true rfl, Nat.le_of_ble_eq_true rfl⟩) (
  fm (z_icmp_eq (off := 410) (by decide +kernel) (by decide)) (
  fm (z_iconst (n := 0) (by decide +kernel) (by decide)) (fn))))))))))))))))))))))))))
def kL_33 (L : Nat) (xs : Nat → Int32) : Cd := [(1255, s_aload 1 1256), (1256, s_inv mX4_wipe 4 0 1259), (1259, s_aload 2 1260), (1260, s_inv mX5_wipe 5 0 1263), (1263, s_icmp (fun x y => x = y) 1660 1266), (1266, s_pushi 0 1267)]
set_option maxRecDepth 20000 in
theorem zL_33 (L : Nat) (xs : Nat → Int32) : ∀ q ∈ kL_33 L xs, SndG (some (L, xs)) RL cL_law 4 lawRet room_1 q.1 q.2 :=
  fm (z_aload_n (j := 1) (by decide +kernel) rfl) (
  fm (z_inv (idx := 150) rfl (by decide +kernel) wd_3_12 wd_3_13 wd_3_14 wd_1_1 wd_3_15 (by decide +kernel) ⟨Nat.le_of_ble_eq_true rfl, Nat.le_of_ble_eq_true rfl⟩) (
  fm (z_aload_n (j := 2) (by decide +kernel) rfl) (
  fm (z_inv (idx := 153) rfl (by decide +kernel) wd_5_117 wd_5_118 wd_5_119 wd_1_7 wd_5_120 (by decide +kernel) ⟨Nat.le_of_ble_eq_true rfl, Nat.le_of_ble_eq_true rfl⟩) (
  fm (z_icmp_eq (off := 397) (by decide +kernel) (by decide)) (
  fm (z_iconst (n := 0) (by decide +kernel) (by decide)) (fn))))))
def kL_34 (L : Nat) (xs : Nat → Int32) : Cd := [(1268, s_aload 1 1269), (1269, s_inv mX4_text 4 0 1272), (1272, s_aload 2 1273), (1273, s_inv mX5_text 5 0 1276), (1276, s_icmp (fun x y => x = y) 1660 1279), (1279, s_pushi 0 1280)]
set_option maxRecDepth 20000 in
theorem zL_34 (L : Nat) (xs : Nat → Int32) : ∀ q ∈ kL_34 L xs, SndG (some (L, xs)) RL cL_law 4 lawRet room_1 q.1 q.2 :=
  fm (z_aload_n (j := 1) (by decide +kernel) rfl) (
  fm (z_inv (idx := 154) rfl (by decide +kernel) wd_3_16 wd_3_17 wd_3_18 wd_1_1 wd_3_19 (by decide +kernel) ⟨Nat.le_of_ble_eq_true rfl, Nat.le_of_ble_eq_true rfl⟩) (
  fm (z_aload_n (j := 2) (by decide +kernel) rfl) (
  fm (z_inv (idx := 157) rfl (by decide +kernel) wd_5_121 wd_5_122 wd_5_123 wd_1_7 wd_5_124 (by decide +kernel) ⟨Nat.le_of_ble_eq_true rfl, Nat.le_of_ble_eq_true rfl⟩) (
  fm (z_icmp_eq (off := 384) (by decide +kernel) (by decide)) (
  fm (z_iconst (n := 0) (by decide +kernel) (by decide)) (fn))))))
def kL_35 (L : Nat) (xs : Nat → Int32) : Cd := [(1281, s_aload 1 1282), (1282, s_aload 0 1283), (1283, s_iload 3 1284), (1284, s_pushi 1 1285), (1285, s_bin (fun x y => x + y) 1286), (1286, s_sld L xs 1287), (1287, s_aload 0 1288), (1288, s_iload 3 1289), (1289, s_pushi 2 1290), (1290, s_bin (fun x y => x + y) 1291), (1291, s_sld L xs 1292), (1292, s_inv mX4_hold 4 2 1295), (1295, s_aload 2 1296), (1296, s_aload 0 1297), (1297, s_iload 3 1298), (1298, s_pushi 1 1299), (1299, s_bin (fun x y => x + y) 1300), (1300, s_sld L xs 1301), (1301, s_aload 0 1302), (1302, s_iload 3 1303), (1303, s_pushi 2 1304), (1304, s_bin (fun x y => x + y) 1305), (1305, s_sld L xs 1306), (1306, s_inv mX5_hold 5 2 1309), (1309, s_icmp (fun x y => x = y) 1660 1312), (1312, s_pushi 0 1313)]
set_option maxRecDepth 20000 in
theorem zL_35 (L : Nat) (xs : Nat → Int32) : ∀ q ∈ kL_35 L xs, SndG (some (L, xs)) RL cL_law 4 lawRet room_1 q.1 q.2 :=
  fm (z_aload_n (j := 1) (by decide +kernel) rfl) (
  fm (z_aload_n (j := 0) (by decide +kernel) rfl) (
  fm (z_iload_n (j := 3) (by decide +kernel) rfl) (
  fm (z_iconst (n := 1) (by decide +kernel) (by decide)) (
  fm (z_iadd (by decide +kernel)) (
  fm (z_sld (show decode cL_law 1286 = .ok (.iaload, 1) from by decide +kernel)) (
  fm (z_aload_n (j := 0) (by decide +kernel) rfl) (
  fm (z_iload_n (j := 3) (by decide +kernel) rfl) (
  fm (z_iconst (n := 2) (by decide +kernel) (by decide)) (
  fm (z_iadd (by decide +kernel)) (
  fm (z_sld (show decode cL_law 1291 = .ok (.iaload, 1) from by decide +kernel)) (
  fm (z_inv (idx := 158) rfl (by decide +kernel) wd_3_141 wd_3_142 wd_3_143 wd_1_1 wd_3_144 (by decide +kernel) ⟨Nat.le_of_ble_eq_true rfl, Nat.le_of_ble_eq_true rfl⟩) (
  fm (z_aload_n (j := 2) (by decide +kernel) rfl) (
  fm (z_aload_n (j := 0) (by decide +kernel) rfl) (
  fm (z_iload_n (j := 3) (by decide +kernel) rfl) (
  fm (z_iconst (n := 1) (by decide +kernel) (by decide)) (
  fm (z_iadd (by decide +kernel)) (
  fm (z_sld (show decode cL_law 1300 = .ok (.iaload, 1) from by decide +kernel)) (
  fm (z_aload_n (j := 0) (by decide +kernel) rfl) (
  fm (z_iload_n (j := 3) (by decide +kernel) rfl) (
  fm (z_iconst (n := 2) (by decide +kernel) (by decide)) (
  fm (z_iadd (by decide +kernel)) (
  fm (z_sld (show decode cL_law 1305 = .ok (.iaload, 1) from by decide +kernel)) (
  fm (z_inv (idx := 161) rfl (by decide +kernel) wd_5_195 wd_5_196 wd_5_197 wd_1_7 wd_5_198 (by decide +kernel) ⟨Nat.le_of_ble_eq_true rfl, Nat.le_of_ble_eq_true rfl⟩) (
  fm (z_icmp_eq (off := 351) (by decide +kernel) (by decide)) (
  fm (z_iconst (n := 0) (by decide +kernel) (by decide)) (fn))))))))))))))))))))))))))
def kL_36 (L : Nat) (xs : Nat → Int32) : Cd := [(1314, s_aload 1 1315), (1315, s_aload 0 1316), (1316, s_iload 3 1317), (1317, s_pushi 1 1318), (1318, s_bin (fun x y => x + y) 1319), (1319, s_sld L xs 1320), (1320, s_aload 0 1321), (1321, s_iload 3 1322), (1322, s_pushi 2 1323), (1323, s_bin (fun x y => x + y) 1324), (1324, s_sld L xs 1325), (1325, s_inv mX4_as 4 2 1328), (1328, s_aload 2 1329), (1329, s_aload 0 1330), (1330, s_iload 3 1331), (1331, s_pushi 1 1332), (1332, s_bin (fun x y => x + y) 1333), (1333, s_sld L xs 1334), (1334, s_aload 0 1335), (1335, s_iload 3 1336), (1336, s_pushi 2 1337), (1337, s_bin (fun x y => x + y) 1338), (1338, s_sld L xs 1339), (1339, s_inv mX5_as 5 2 1342), (1342, s_icmp (fun x y => x = y) 1660 1345), (1345, s_pushi 0 1346)]
set_option maxRecDepth 20000 in
theorem zL_36 (L : Nat) (xs : Nat → Int32) : ∀ q ∈ kL_36 L xs, SndG (some (L, xs)) RL cL_law 4 lawRet room_1 q.1 q.2 :=
  fm (z_aload_n (j := 1) (by decide +kernel) rfl) (
  fm (z_aload_n (j := 0) (by decide +kernel) rfl) (
  fm (z_iload_n (j := 3) (by decide +kernel) rfl) (
  fm (z_iconst (n := 1) (by decide +kernel) (by decide)) (
  fm (z_iadd (by decide +kernel)) (
  fm (z_sld (show decode cL_law 1319 = .ok (.iaload, 1) from by decide +kernel)) (
  fm (z_aload_n (j := 0) (by decide +kernel) rfl) (
  fm (z_iload_n (j := 3) (by decide +kernel) rfl) (
  fm (z_iconst (n := 2) (by decide +kernel) (by decide)) (
  fm (z_iadd (by decide +kernel)) (
  fm (z_sld (show decode cL_law 1324 = .ok (.iaload, 1) from by decide +kernel)) (
  fm (z_inv (idx := 162) rfl (by decide +kernel) wd_3_148 wd_3_149 wd_3_150 wd_1_1 wd_3_151 (by decide +kernel) ⟨Nat.le_of_ble_eq_true rfl, Nat.le_of_ble_eq_true rfl⟩) (
  fm (z_aload_n (j := 2) (by decide +kernel) rfl) (
  fm (z_aload_n (j := 0) (by decide +kernel) rfl) (
  fm (z_iload_n (j := 3) (by decide +kernel) rfl) (
  fm (z_iconst (n := 1) (by decide +kernel) (by decide)) (
  fm (z_iadd (by decide +kernel)) (
  fm (z_sld (show decode cL_law 1333 = .ok (.iaload, 1) from by decide +kernel)) (
  fm (z_aload_n (j := 0) (by decide +kernel) rfl) (
  fm (z_iload_n (j := 3) (by decide +kernel) rfl) (
  fm (z_iconst (n := 2) (by decide +kernel) (by decide)) (
  fm (z_iadd (by decide +kernel)) (
  fm (z_sld (show decode cL_law 1338 = .ok (.iaload, 1) from by decide +kernel)) (
  fm (z_inv (idx := 165) rfl (by decide +kernel) wd_5_200 wd_5_201 wd_5_202 wd_1_7 wd_5_203 (by decide +kernel) ⟨Nat.le_of_ble_eq_true rfl, Nat.le_of_ble_eq_true rfl⟩) (
  fm (z_icmp_eq (off := 318) (by decide +kernel) (by decide)) (
  fm (z_iconst (n := 0) (by decide +kernel) (by decide)) (fn))))))))))))))))))))))))))
def kL_37 (L : Nat) (xs : Nat → Int32) : Cd := [(1347, s_aload 1 1348), (1348, s_aload 0 1349), (1349, s_iload 3 1350), (1350, s_pushi 1 1351), (1351, s_bin (fun x y => x + y) 1352), (1352, s_sld L xs 1353), (1353, s_aload 0 1354), (1354, s_iload 3 1355), (1355, s_pushi 2 1356), (1356, s_bin (fun x y => x + y) 1357), (1357, s_sld L xs 1358), (1358, s_aload 0 1359), (1359, s_iload 3 1360), (1360, s_pushi 3 1361), (1361, s_bin (fun x y => x + y) 1362), (1362, s_sld L xs 1363), (1363, s_inv mX4_sheet 4 3 1366), (1366, s_aload 2 1367), (1367, s_aload 0 1368), (1368, s_iload 3 1369), (1369, s_pushi 1 1370), (1370, s_bin (fun x y => x + y) 1371), (1371, s_sld L xs 1372), (1372, s_aload 0 1373), (1373, s_iload 3 1374), (1374, s_pushi 2 1375), (1375, s_bin (fun x y => x + y) 1376), (1376, s_sld L xs 1377), (1377, s_aload 0 1378), (1378, s_iload 3 1379), (1379, s_pushi 3 1380), (1380, s_bin (fun x y => x + y) 1381), (1381, s_sld L xs 1382), (1382, s_inv mX5_sheet 5 3 1385), (1385, s_icmp (fun x y => x = y) 1660 1388), (1388, s_pushi 0 1389)]
set_option maxRecDepth 20000 in
theorem zL_37 (L : Nat) (xs : Nat → Int32) : ∀ q ∈ kL_37 L xs, SndG (some (L, xs)) RL cL_law 4 lawRet room_1 q.1 q.2 :=
  fm (z_aload_n (j := 1) (by decide +kernel) rfl) (
  fm (z_aload_n (j := 0) (by decide +kernel) rfl) (
  fm (z_iload_n (j := 3) (by decide +kernel) rfl) (
  fm (z_iconst (n := 1) (by decide +kernel) (by decide)) (
  fm (z_iadd (by decide +kernel)) (
  fm (z_sld (show decode cL_law 1352 = .ok (.iaload, 1) from by decide +kernel)) (
  fm (z_aload_n (j := 0) (by decide +kernel) rfl) (
  fm (z_iload_n (j := 3) (by decide +kernel) rfl) (
  fm (z_iconst (n := 2) (by decide +kernel) (by decide)) (
  fm (z_iadd (by decide +kernel)) (
  fm (z_sld (show decode cL_law 1357 = .ok (.iaload, 1) from by decide +kernel)) (
  fm (z_aload_n (j := 0) (by decide +kernel) rfl) (
  fm (z_iload_n (j := 3) (by decide +kernel) rfl) (
  fm (z_iconst (n := 3) (by decide +kernel) (by decide)) (
  fm (z_iadd (by decide +kernel)) (
  fm (z_sld (show decode cL_law 1362 = .ok (.iaload, 1) from by decide +kernel)) (
  fm (z_inv (idx := 166) rfl (by decide +kernel) wd_3_158 wd_3_159 wd_3_160 wd_1_1 wd_3_161 (by decide +kernel) ⟨Nat.le_of_ble_eq_true rfl, Nat.le_of_ble_eq_true rfl⟩) (
  fm (z_aload_n (j := 2) (by decide +kernel) rfl) (
  fm (z_aload_n (j := 0) (by decide +kernel) rfl) (
  fm (z_iload_n (j := 3) (by decide +kernel) rfl) (
  fm (z_iconst (n := 1) (by decide +kernel) (by decide)) (
  fm (z_iadd (by decide +kernel)) (
  fm (z_sld (show decode cL_law 1371 = .ok (.iaload, 1) from by decide +kernel)) (
  fm (z_aload_n (j := 0) (by decide +kernel) rfl) (
  fm (z_iload_n (j := 3) (by decide +kernel) rfl) (
  fm (z_iconst (n := 2) (by decide +kernel) (by decide)) (
  fm (z_iadd (by decide +kernel)) (
  fm (z_sld (show decode cL_law 1376 = .ok (.iaload, 1) from by decide +kernel)) (
  fm (z_aload_n (j := 0) (by decide +kernel) rfl) (
  fm (z_iload_n (j := 3) (by decide +kernel) rfl) (
  fm (z_iconst (n := 3) (by decide +kernel) (by decide)) (
  fm (z_iadd (by decide +kernel)) (
  fm (z_sld (show decode cL_law 1381 = .ok (.iaload, 1) from by decide +kernel)) (
  fm (z_inv (idx := 169) rfl (by decide +kernel) wd_5_206 wd_5_207 wd_5_208 wd_1_7 wd_5_209 (by decide +kernel) ⟨Nat.le_of_ble_eq_true rfl, Nat.le_of_ble_eq_true rfl⟩) (
  fm (z_icmp_eq (off := 275) (by decide +kernel) (by decide)) (
  fm (z_iconst (n := 0) (by decide +kernel) (by decide)) (fn))))))))))))))))))))))))))))))))))))
def kL_38 (L : Nat) (xs : Nat → Int32) : Cd := [(1390, s_aload 1 1391), (1391, s_aload 0 1392), (1392, s_iload 3 1393), (1393, s_pushi 1 1394), (1394, s_bin (fun x y => x + y) 1395), (1395, s_sld L xs 1396), (1396, s_aload 0 1397), (1397, s_iload 3 1398), (1398, s_pushi 2 1399), (1399, s_bin (fun x y => x + y) 1400), (1400, s_sld L xs 1401), (1401, s_aload 0 1402), (1402, s_iload 3 1403), (1403, s_pushi 3 1404), (1404, s_bin (fun x y => x + y) 1405), (1405, s_sld L xs 1406), (1406, s_inv mX4_write 4 3 1409), (1409, s_aload 2 1410), (1410, s_aload 0 1411), (1411, s_iload 3 1412), (1412, s_pushi 1 1413), (1413, s_bin (fun x y => x + y) 1414), (1414, s_sld L xs 1415), (1415, s_aload 0 1416), (1416, s_iload 3 1417), (1417, s_pushi 2 1418), (1418, s_bin (fun x y => x + y) 1419), (1419, s_sld L xs 1420), (1420, s_aload 0 1421), (1421, s_iload 3 1422), (1422, s_pushi 3 1423), (1423, s_bin (fun x y => x + y) 1424), (1424, s_sld L xs 1425), (1425, s_inv mX5_write 5 3 1428), (1428, s_icmp (fun x y => x = y) 1660 1431), (1431, s_pushi 0 1432)]
set_option maxRecDepth 20000 in
theorem zL_38 (L : Nat) (xs : Nat → Int32) : ∀ q ∈ kL_38 L xs, SndG (some (L, xs)) RL cL_law 4 lawRet room_1 q.1 q.2 :=
  fm (z_aload_n (j := 1) (by decide +kernel) rfl) (
  fm (z_aload_n (j := 0) (by decide +kernel) rfl) (
  fm (z_iload_n (j := 3) (by decide +kernel) rfl) (
  fm (z_iconst (n := 1) (by decide +kernel) (by decide)) (
  fm (z_iadd (by decide +kernel)) (
  fm (z_sld (show decode cL_law 1395 = .ok (.iaload, 1) from by decide +kernel)) (
  fm (z_aload_n (j := 0) (by decide +kernel) rfl) (
  fm (z_iload_n (j := 3) (by decide +kernel) rfl) (
  fm (z_iconst (n := 2) (by decide +kernel) (by decide)) (
  fm (z_iadd (by decide +kernel)) (
  fm (z_sld (show decode cL_law 1400 = .ok (.iaload, 1) from by decide +kernel)) (
  fm (z_aload_n (j := 0) (by decide +kernel) rfl) (
  fm (z_iload_n (j := 3) (by decide +kernel) rfl) (
  fm (z_iconst (n := 3) (by decide +kernel) (by decide)) (
  fm (z_iadd (by decide +kernel)) (
  fm (z_sld (show decode cL_law 1405 = .ok (.iaload, 1) from by decide +kernel)) (
  fm (z_inv (idx := 170) rfl (by decide +kernel) wd_3_170 wd_3_171 wd_3_172 wd_1_1 wd_3_173 (by decide +kernel) ⟨Nat.le_of_ble_eq_true rfl, Nat.le_of_ble_eq_true rfl⟩) (
  fm (z_aload_n (j := 2) (by decide +kernel) rfl) (
  fm (z_aload_n (j := 0) (by decide +kernel) rfl) (
  fm (z_iload_n (j := 3) (by decide +kernel) rfl) (
  fm (z_iconst (n := 1) (by decide +kernel) (by decide)) (
  fm (z_iadd (by decide +kernel)) (
  fm (z_sld (show decode cL_law 1414 = .ok (.iaload, 1) from by decide +kernel)) (
  fm (z_aload_n (j := 0) (by decide +kernel) rfl) (
  fm (z_iload_n (j := 3) (by decide +kernel) rfl) (
  fm (z_iconst (n := 2) (by decide +kernel) (by decide)) (
  fm (z_iadd (by decide +kernel)) (
  fm (z_sld (show decode cL_law 1419 = .ok (.iaload, 1) from by decide +kernel)) (
  fm (z_aload_n (j := 0) (by decide +kernel) rfl) (
  fm (z_iload_n (j := 3) (by decide +kernel) rfl) (
  fm (z_iconst (n := 3) (by decide +kernel) (by decide)) (
  fm (z_iadd (by decide +kernel)) (
  fm (z_sld (show decode cL_law 1424 = .ok (.iaload, 1) from by decide +kernel)) (
  fm (z_inv (idx := 173) rfl (by decide +kernel) wd_5_214 wd_5_215 wd_5_216 wd_1_7 wd_5_217 (by decide +kernel) ⟨Nat.le_of_ble_eq_true rfl, Nat.le_of_ble_eq_true rfl⟩) (
  fm (z_icmp_eq (off := 232) (by decide +kernel) (by decide)) (
  fm (z_iconst (n := 0) (by decide +kernel) (by decide)) (fn))))))))))))))))))))))))))))))))))))
def kL_39 (L : Nat) (xs : Nat → Int32) : Cd := [(1433, s_aload 1 1434), (1434, s_aload 0 1435), (1435, s_iload 3 1436), (1436, s_pushi 1 1437), (1437, s_bin (fun x y => x + y) 1438), (1438, s_sld L xs 1439), (1439, s_aload 0 1440), (1440, s_iload 3 1441), (1441, s_pushi 2 1442), (1442, s_bin (fun x y => x + y) 1443), (1443, s_sld L xs 1444), (1444, s_aload 0 1445), (1445, s_iload 3 1446), (1446, s_pushi 3 1447), (1447, s_bin (fun x y => x + y) 1448), (1448, s_sld L xs 1449), (1449, s_aload 0 1450), (1450, s_iload 3 1451), (1451, s_pushi 4 1452), (1452, s_bin (fun x y => x + y) 1453), (1453, s_sld L xs 1454), (1454, s_aload 0 1455), (1455, s_iload 3 1456), (1456, s_pushi 5 1457), (1457, s_bin (fun x y => x + y) 1458), (1458, s_sld L xs 1459), (1459, s_inv mX4_copy 4 5 1462), (1462, s_aload 2 1463), (1463, s_aload 0 1464), (1464, s_iload 3 1465), (1465, s_pushi 1 1466), (1466, s_bin (fun x y => x + y) 1467), (1467, s_sld L xs 1468), (1468, s_aload 0 1469), (1469, s_iload 3 1470), (1470, s_pushi 2 1471), (1471, s_bin (fun x y => x + y) 1472), (1472, s_sld L xs 1473), (1473, s_aload 0 1474), (1474, s_iload 3 1475), (1475, s_pushi 3 1476), (1476, s_bin (fun x y => x + y) 1477), (1477, s_sld L xs 1478), (1478, s_aload 0 1479), (1479, s_iload 3 1480), (1480, s_pushi 4 1481), (1481, s_bin (fun x y => x + y) 1482), (1482, s_sld L xs 1483), (1483, s_aload 0 1484), (1484, s_iload 3 1485), (1485, s_pushi 5 1486), (1486, s_bin (fun x y => x + y) 1487), (1487, s_sld L xs 1488), (1488, s_inv mX5_copy 5 5 1491), (1491, s_icmp (fun x y => x = y) 1660 1494), (1494, s_pushi 0 1495)]
set_option maxRecDepth 20000 in
theorem zL_39 (L : Nat) (xs : Nat → Int32) : ∀ q ∈ kL_39 L xs, SndG (some (L, xs)) RL cL_law 4 lawRet room_1 q.1 q.2 :=
  fm (z_aload_n (j := 1) (by decide +kernel) rfl) (
  fm (z_aload_n (j := 0) (by decide +kernel) rfl) (
  fm (z_iload_n (j := 3) (by decide +kernel) rfl) (
  fm (z_iconst (n := 1) (by decide +kernel) (by decide)) (
  fm (z_iadd (by decide +kernel)) (
  fm (z_sld (show decode cL_law 1438 = .ok (.iaload, 1) from by decide +kernel)) (
  fm (z_aload_n (j := 0) (by decide +kernel) rfl) (
  fm (z_iload_n (j := 3) (by decide +kernel) rfl) (
  fm (z_iconst (n := 2) (by decide +kernel) (by decide)) (
  fm (z_iadd (by decide +kernel)) (
  fm (z_sld (show decode cL_law 1443 = .ok (.iaload, 1) from by decide +kernel)) (
  fm (z_aload_n (j := 0) (by decide +kernel) rfl) (
  fm (z_iload_n (j := 3) (by decide +kernel) rfl) (
  fm (z_iconst (n := 3) (by decide +kernel) (by decide)) (
  fm (z_iadd (by decide +kernel)) (
  fm (z_sld (show decode cL_law 1448 = .ok (.iaload, 1) from by decide +kernel)) (
  fm (z_aload_n (j := 0) (by decide +kernel) rfl) (
  fm (z_iload_n (j := 3) (by decide +kernel) rfl) (
  fm (z_iconst (n := 4) (by decide +kernel) (by decide)) (
  fm (z_iadd (by decide +kernel)) (
  fm (z_sld (show decode cL_law 1453 = .ok (.iaload, 1) from by decide +kernel)) (
  fm (z_aload_n (j := 0) (by decide +kernel) rfl) (
  fm (z_iload_n (j := 3) (by decide +kernel) rfl) (
  fm (z_iconst (n := 5) (by decide +kernel) (by decide)) (
  fm (z_iadd (by decide +kernel)) (
  fm (z_sld (show decode cL_law 1458 = .ok (.iaload, 1) from by decide +kernel)) (
  fm (z_inv (idx := 174) rfl (by decide +kernel) wd_3_182 wd_3_183 wd_3_184 wd_1_1 wd_3_185 (by decide +kernel) ⟨Nat.le_of_ble_eq_true rfl, Nat.le_of_ble_eq_true rfl⟩) (
  fm (z_aload_n (j := 2) (by decide +kernel) rfl) (
  fm (z_aload_n (j := 0) (by decide +kernel) rfl) (
  fm (z_iload_n (j := 3) (by decide +kernel) rfl) (
  fm (z_iconst (n := 1) (by decide +kernel) (by decide)) (
  fm (z_iadd (by decide +kernel)) (
  fm (z_sld (show decode cL_law 1467 = .ok (.iaload, 1) from by decide +kernel)) (
  fm (z_aload_n (j := 0) (by decide +kernel) rfl) (
  fm (z_iload_n (j := 3) (by decide +kernel) rfl) (
  fm (z_iconst (n := 2) (by decide +kernel) (by decide)) (
  fm (z_iadd (by decide +kernel)) (
  fm (z_sld (show decode cL_law 1472 = .ok (.iaload, 1) from by decide +kernel)) (
  fm (z_aload_n (j := 0) (by decide +kernel) rfl) (
  fm (z_iload_n (j := 3) (by decide +kernel) rfl) (
  fm (z_iconst (n := 3) (by decide +kernel) (by decide)) (
  fm (z_iadd (by decide +kernel)) (
  fm (z_sld (show decode cL_law 1477 = .ok (.iaload, 1) from by decide +kernel)) (
  fm (z_aload_n (j := 0) (by decide +kernel) rfl) (
  fm (z_iload_n (j := 3) (by decide +kernel) rfl) (
  fm (z_iconst (n := 4) (by decide +kernel) (by decide)) (
  fm (z_iadd (by decide +kernel)) (
  fm (z_sld (show decode cL_law 1482 = .ok (.iaload, 1) from by decide +kernel)) (
  fm (z_aload_n (j := 0) (by decide +kernel) rfl) (
  fm (z_iload_n (j := 3) (by decide +kernel) rfl) (
  fm (z_iconst (n := 5) (by decide +kernel) (by decide)) (
  fm (z_iadd (by decide +kernel)) (
  fm (z_sld (show decode cL_law 1487 = .ok (.iaload, 1) from by decide +kernel)) (
  fm (z_inv (idx := 178) rfl (by decide +kernel) wd_5_225 wd_5_226 wd_5_227 wd_1_7 wd_5_228 (by decide +kernel) ⟨Nat.le_of_ble_eq_true rfl, Nat.le_of_ble_eq_true rfl⟩) (
  fm (z_icmp_eq (off := 169) (by decide +kernel) (by decide)) (
  fm (z_iconst (n := 0) (by decide +kernel) (by decide)) (fn))))))))))))))))))))))))))))))))))))))))))))))))))))))))
def kL_40 (L : Nat) (xs : Nat → Int32) : Cd := [(1496, s_aload 1 1497), (1497, s_aload 0 1498), (1498, s_iload 3 1499), (1499, s_pushi 1 1500), (1500, s_bin (fun x y => x + y) 1501), (1501, s_sld L xs 1502), (1502, s_inv mX4_load 4 1 1505), (1505, s_aload 2 1506), (1506, s_aload 0 1507), (1507, s_iload 3 1508), (1508, s_pushi 1 1509), (1509, s_bin (fun x y => x + y) 1510), (1510, s_sld L xs 1511), (1511, s_inv mX5_load 5 1 1514), (1514, s_icmp (fun x y => x = y) 1660 1517), (1517, s_pushi 0 1518)]
set_option maxRecDepth 20000 in
theorem zL_40 (L : Nat) (xs : Nat → Int32) : ∀ q ∈ kL_40 L xs, SndG (some (L, xs)) RL cL_law 4 lawRet room_1 q.1 q.2 :=
  fm (z_aload_n (j := 1) (by decide +kernel) rfl) (
  fm (z_aload_n (j := 0) (by decide +kernel) rfl) (
  fm (z_iload_n (j := 3) (by decide +kernel) rfl) (
  fm (z_iconst (n := 1) (by decide +kernel) (by decide)) (
  fm (z_iadd (by decide +kernel)) (
  fm (z_sld (show decode cL_law 1501 = .ok (.iaload, 1) from by decide +kernel)) (
  fm (z_inv (idx := 179) rfl (by decide +kernel) wd_3_190 wd_3_191 wd_3_192 wd_1_1 wd_3_193 (by decide +kernel) ⟨Nat.le_of_ble_eq_true rfl, Nat.le_of_ble_eq_true rfl⟩) (
  fm (z_aload_n (j := 2) (by decide +kernel) rfl) (
  fm (z_aload_n (j := 0) (by decide +kernel) rfl) (
  fm (z_iload_n (j := 3) (by decide +kernel) rfl) (
  fm (z_iconst (n := 1) (by decide +kernel) (by decide)) (
  fm (z_iadd (by decide +kernel)) (
  fm (z_sld (show decode cL_law 1510 = .ok (.iaload, 1) from by decide +kernel)) (
  fm (z_inv (idx := 182) rfl (by decide +kernel) wd_5_229 wd_5_230 wd_5_231 wd_1_7 wd_5_232 (by decide +kernel) ⟨Nat.le_of_ble_eq_true rfl, Nat.le_of_ble_eq_true rfl⟩) (
  fm (z_icmp_eq (off := 146) (by decide +kernel) (by decide)) (
  fm (z_iconst (n := 0) (by decide +kernel) (by decide)) (fn))))))))))))))))
def kL_41 (L : Nat) (xs : Nat → Int32) : Cd := [(1519, s_aload 1 1520), (1520, s_aload 0 1521), (1521, s_iload 3 1522), (1522, s_pushi 1 1523), (1523, s_bin (fun x y => x + y) 1524), (1524, s_sld L xs 1525), (1525, s_inv mX4_fit 4 1 1528), (1528, s_aload 2 1529), (1529, s_aload 0 1530), (1530, s_iload 3 1531), (1531, s_pushi 1 1532), (1532, s_bin (fun x y => x + y) 1533), (1533, s_sld L xs 1534), (1534, s_inv mX5_fit 5 1 1537), (1537, s_icmp (fun x y => x = y) 1660 1540), (1540, s_pushi 0 1541)]
set_option maxRecDepth 20000 in
theorem zL_41 (L : Nat) (xs : Nat → Int32) : ∀ q ∈ kL_41 L xs, SndG (some (L, xs)) RL cL_law 4 lawRet room_1 q.1 q.2 :=
  fm (z_aload_n (j := 1) (by decide +kernel) rfl) (
  fm (z_aload_n (j := 0) (by decide +kernel) rfl) (
  fm (z_iload_n (j := 3) (by decide +kernel) rfl) (
  fm (z_iconst (n := 1) (by decide +kernel) (by decide)) (
  fm (z_iadd (by decide +kernel)) (
  fm (z_sld (show decode cL_law 1524 = .ok (.iaload, 1) from by decide +kernel)) (
  fm (z_inv (idx := 183) rfl (by decide +kernel) wd_3_195 wd_3_196 wd_3_197 wd_1_1 wd_3_198 (by decide +kernel) ⟨Nat.le_of_ble_eq_true rfl, Nat.le_of_ble_eq_true rfl⟩) (
  fm (z_aload_n (j := 2) (by decide +kernel) rfl) (
  fm (z_aload_n (j := 0) (by decide +kernel) rfl) (
  fm (z_iload_n (j := 3) (by decide +kernel) rfl) (
  fm (z_iconst (n := 1) (by decide +kernel) (by decide)) (
  fm (z_iadd (by decide +kernel)) (
  fm (z_sld (show decode cL_law 1533 = .ok (.iaload, 1) from by decide +kernel)) (
  fm (z_inv (idx := 186) rfl (by decide +kernel) wd_5_233 wd_5_234 wd_5_235 wd_1_7 wd_5_236 (by decide +kernel) ⟨Nat.le_of_ble_eq_true rfl, Nat.le_of_ble_eq_true rfl⟩) (
  fm (z_icmp_eq (off := 123) (by decide +kernel) (by decide)) (
  fm (z_iconst (n := 0) (by decide +kernel) (by decide)) (fn))))))))))))))))
def kL_42 (L : Nat) (xs : Nat → Int32) : Cd := [(1542, s_aload 1 1543), (1543, s_aload 0 1544), (1544, s_iload 3 1545), (1545, s_pushi 1 1546), (1546, s_bin (fun x y => x + y) 1547), (1547, s_sld L xs 1548), (1548, s_aload 0 1549), (1549, s_iload 3 1550), (1550, s_pushi 2 1551), (1551, s_bin (fun x y => x + y) 1552), (1552, s_sld L xs 1553), (1553, s_inv mX4_judge 4 2 1556), (1556, s_aload 2 1557), (1557, s_aload 0 1558), (1558, s_iload 3 1559), (1559, s_pushi 1 1560), (1560, s_bin (fun x y => x + y) 1561), (1561, s_sld L xs 1562), (1562, s_aload 0 1563), (1563, s_iload 3 1564), (1564, s_pushi 2 1565), (1565, s_bin (fun x y => x + y) 1566), (1566, s_sld L xs 1567), (1567, s_inv mX5_judge 5 2 1570), (1570, s_icmp (fun x y => x = y) 1660 1573), (1573, s_pushi 0 1574)]
set_option maxRecDepth 20000 in
theorem zL_42 (L : Nat) (xs : Nat → Int32) : ∀ q ∈ kL_42 L xs, SndG (some (L, xs)) RL cL_law 4 lawRet room_1 q.1 q.2 :=
  fm (z_aload_n (j := 1) (by decide +kernel) rfl) (
  fm (z_aload_n (j := 0) (by decide +kernel) rfl) (
  fm (z_iload_n (j := 3) (by decide +kernel) rfl) (
  fm (z_iconst (n := 1) (by decide +kernel) (by decide)) (
  fm (z_iadd (by decide +kernel)) (
  fm (z_sld (show decode cL_law 1547 = .ok (.iaload, 1) from by decide +kernel)) (
  fm (z_aload_n (j := 0) (by decide +kernel) rfl) (
  fm (z_iload_n (j := 3) (by decide +kernel) rfl) (
  fm (z_iconst (n := 2) (by decide +kernel) (by decide)) (
  fm (z_iadd (by decide +kernel)) (
  fm (z_sld (show decode cL_law 1552 = .ok (.iaload, 1) from by decide +kernel)) (
  fm (z_inv (idx := 187) rfl (by decide +kernel) wd_3_210 wd_3_211 wd_3_212 wd_1_1 wd_3_213 (by decide +kernel) ⟨Nat.le_of_ble_eq_true rfl, Nat.le_of_ble_eq_true rfl⟩) (
  fm (z_aload_n (j := 2) (by decide +kernel) rfl) (
  fm (z_aload_n (j := 0) (by decide +kernel) rfl) (
  fm (z_iload_n (j := 3) (by decide +kernel) rfl) (
  fm (z_iconst (n := 1) (by decide +kernel) (by decide)) (
  fm (z_iadd (by decide +kernel)) (
  fm (z_sld (show decode cL_law 1561 = .ok (.iaload, 1) from by decide +kernel)) (
  fm (z_aload_n (j := 0) (by decide +kernel) rfl) (
  fm (z_iload_n (j := 3) (by decide +kernel) rfl) (
  fm (z_iconst (n := 2) (by decide +kernel) (by decide)) (
  fm (z_iadd (by decide +kernel)) (
  fm (z_sld (show decode cL_law 1566 = .ok (.iaload, 1) from by decide +kernel)) (
  fm (z_inv (idx := 190) rfl (by decide +kernel) wd_6_1 wd_6_2 wd_6_3 wd_1_7 wd_6_4 (by decide +kernel) ⟨Nat.le_of_ble_eq_true rfl, Nat.le_of_ble_eq_true rfl⟩) (
  fm (z_icmp_eq (off := 90) (by decide +kernel) (by decide)) (
  fm (z_iconst (n := 0) (by decide +kernel) (by decide)) (fn))))))))))))))))))))))))))
def kL_43 (L : Nat) (xs : Nat → Int32) : Cd := [(1575, s_aload 1 1576), (1576, s_inv mX4_image 4 0 1579), (1579, s_aload 2 1580), (1580, s_inv mX5_image 5 0 1583), (1583, s_icmp (fun x y => x = y) 1660 1586), (1586, s_pushi 0 1587)]
set_option maxRecDepth 20000 in
theorem zL_43 (L : Nat) (xs : Nat → Int32) : ∀ q ∈ kL_43 L xs, SndG (some (L, xs)) RL cL_law 4 lawRet room_1 q.1 q.2 :=
  fm (z_aload_n (j := 1) (by decide +kernel) rfl) (
  fm (z_inv (idx := 191) rfl (by decide +kernel) wd_3_214 wd_3_215 wd_3_216 wd_1_1 wd_3_217 (by decide +kernel) ⟨Nat.le_of_ble_eq_true rfl, Nat.le_of_ble_eq_true rfl⟩) (
  fm (z_aload_n (j := 2) (by decide +kernel) rfl) (
  fm (z_inv (idx := 194) rfl (by decide +kernel) wd_6_5 wd_6_6 wd_6_7 wd_1_7 wd_6_8 (by decide +kernel) ⟨Nat.le_of_ble_eq_true rfl, Nat.le_of_ble_eq_true rfl⟩) (
  fm (z_icmp_eq (off := 77) (by decide +kernel) (by decide)) (
  fm (z_iconst (n := 0) (by decide +kernel) (by decide)) (fn))))))
def kL_44 (L : Nat) (xs : Nat → Int32) : Cd := [(1588, s_aload 1 1589), (1589, s_inv mX4_undo 4 0 1592), (1592, s_aload 2 1593), (1593, s_inv mX5_undo 5 0 1596), (1596, s_icmp (fun x y => x = y) 1660 1599), (1599, s_pushi 0 1600)]
set_option maxRecDepth 20000 in
theorem zL_44 (L : Nat) (xs : Nat → Int32) : ∀ q ∈ kL_44 L xs, SndG (some (L, xs)) RL cL_law 4 lawRet room_1 q.1 q.2 :=
  fm (z_aload_n (j := 1) (by decide +kernel) rfl) (
  fm (z_inv (idx := 195) rfl (by decide +kernel) wd_3_218 wd_3_219 wd_3_220 wd_1_1 wd_3_221 (by decide +kernel) ⟨Nat.le_of_ble_eq_true rfl, Nat.le_of_ble_eq_true rfl⟩) (
  fm (z_aload_n (j := 2) (by decide +kernel) rfl) (
  fm (z_inv (idx := 198) rfl (by decide +kernel) wd_6_9 wd_6_10 wd_6_11 wd_1_7 wd_6_12 (by decide +kernel) ⟨Nat.le_of_ble_eq_true rfl, Nat.le_of_ble_eq_true rfl⟩) (
  fm (z_icmp_eq (off := 64) (by decide +kernel) (by decide)) (
  fm (z_iconst (n := 0) (by decide +kernel) (by decide)) (fn))))))
def kL_45 (L : Nat) (xs : Nat → Int32) : Cd := [(1601, s_aload 1 1602), (1602, s_inv mX4_tear 4 0 1605), (1605, s_aload 2 1606), (1606, s_inv mX5_tear 5 0 1609), (1609, s_icmp (fun x y => x = y) 1660 1612), (1612, s_pushi 0 1613)]
set_option maxRecDepth 20000 in
theorem zL_45 (L : Nat) (xs : Nat → Int32) : ∀ q ∈ kL_45 L xs, SndG (some (L, xs)) RL cL_law 4 lawRet room_1 q.1 q.2 :=
  fm (z_aload_n (j := 1) (by decide +kernel) rfl) (
  fm (z_inv (idx := 199) rfl (by decide +kernel) wd_3_222 wd_3_223 wd_3_224 wd_1_1 wd_3_225 (by decide +kernel) ⟨Nat.le_of_ble_eq_true rfl, Nat.le_of_ble_eq_true rfl⟩) (
  fm (z_aload_n (j := 2) (by decide +kernel) rfl) (
  fm (z_inv (idx := 202) rfl (by decide +kernel) wd_6_13 wd_6_14 wd_6_15 wd_1_7 wd_6_16 (by decide +kernel) ⟨Nat.le_of_ble_eq_true rfl, Nat.le_of_ble_eq_true rfl⟩) (
  fm (z_icmp_eq (off := 51) (by decide +kernel) (by decide)) (
  fm (z_iconst (n := 0) (by decide +kernel) (by decide)) (fn))))))
def kL_46 (L : Nat) (xs : Nat → Int32) : Cd := [(1614, s_aload 1 1615), (1615, s_aload 0 1616), (1616, s_iload 3 1617), (1617, s_pushi 1 1618), (1618, s_bin (fun x y => x + y) 1619), (1619, s_sld L xs 1620), (1620, s_inv mX4_count 4 1 1623), (1623, s_aload 2 1624), (1624, s_aload 0 1625), (1625, s_iload 3 1626), (1626, s_pushi 1 1627), (1627, s_bin (fun x y => x + y) 1628), (1628, s_sld L xs 1629), (1629, s_inv mX5_count 5 1 1632), (1632, s_icmp (fun x y => x = y) 1660 1635), (1635, s_pushi 0 1636)]
set_option maxRecDepth 20000 in
theorem zL_46 (L : Nat) (xs : Nat → Int32) : ∀ q ∈ kL_46 L xs, SndG (some (L, xs)) RL cL_law 4 lawRet room_1 q.1 q.2 :=
  fm (z_aload_n (j := 1) (by decide +kernel) rfl) (
  fm (z_aload_n (j := 0) (by decide +kernel) rfl) (
  fm (z_iload_n (j := 3) (by decide +kernel) rfl) (
  fm (z_iconst (n := 1) (by decide +kernel) (by decide)) (
  fm (z_iadd (by decide +kernel)) (
  fm (z_sld (show decode cL_law 1619 = .ok (.iaload, 1) from by decide +kernel)) (
  fm (z_inv (idx := 203) rfl (by decide +kernel) wd_3_226 wd_3_227 wd_3_228 wd_1_1 wd_3_229 (by decide +kernel) ⟨Nat.le_of_ble_eq_true rfl, Nat.le_of_ble_eq_true rfl⟩) (
  fm (z_aload_n (j := 2) (by decide +kernel) rfl) (
  fm (z_aload_n (j := 0) (by decide +kernel) rfl) (
  fm (z_iload_n (j := 3) (by decide +kernel) rfl) (
  fm (z_iconst (n := 1) (by decide +kernel) (by decide)) (
  fm (z_iadd (by decide +kernel)) (
  fm (z_sld (show decode cL_law 1628 = .ok (.iaload, 1) from by decide +kernel)) (
  fm (z_inv (idx := 206) rfl (by decide +kernel) wd_6_17 wd_6_18 wd_6_19 wd_1_7 wd_6_20 (by decide +kernel) ⟨Nat.le_of_ble_eq_true rfl, Nat.le_of_ble_eq_true rfl⟩) (
  fm (z_icmp_eq (off := 28) (by decide +kernel) (by decide)) (
  fm (z_iconst (n := 0) (by decide +kernel) (by decide)) (fn))))))))))))))))
def kL_47 (L : Nat) (xs : Nat → Int32) : Cd := [(1637, s_aload 1 1638), (1638, s_aload 0 1639), (1639, s_iload 3 1640), (1640, s_pushi 1 1641), (1641, s_bin (fun x y => x + y) 1642), (1642, s_sld L xs 1643), (1643, s_inv mX4_status 4 1 1646), (1646, s_aload 2 1647), (1647, s_aload 0 1648), (1648, s_iload 3 1649), (1649, s_pushi 1 1650), (1650, s_bin (fun x y => x + y) 1651), (1651, s_sld L xs 1652), (1652, s_inv mX5_status 5 1 1655), (1655, s_icmp (fun x y => x = y) 1660 1658), (1658, s_pushi 0 1659)]
set_option maxRecDepth 20000 in
theorem zL_47 (L : Nat) (xs : Nat → Int32) : ∀ q ∈ kL_47 L xs, SndG (some (L, xs)) RL cL_law 4 lawRet room_1 q.1 q.2 :=
  fm (z_aload_n (j := 1) (by decide +kernel) rfl) (
  fm (z_aload_n (j := 0) (by decide +kernel) rfl) (
  fm (z_iload_n (j := 3) (by decide +kernel) rfl) (
  fm (z_iconst (n := 1) (by decide +kernel) (by decide)) (
  fm (z_iadd (by decide +kernel)) (
  fm (z_sld (show decode cL_law 1642 = .ok (.iaload, 1) from by decide +kernel)) (
  fm (z_inv (idx := 207) rfl (by decide +kernel) wd_4_2 wd_4_3 wd_4_4 wd_1_1 wd_4_5 (by decide +kernel) ⟨Nat.le_of_ble_eq_true rfl, Nat.le_of_ble_eq_true rfl⟩) (
  fm (z_aload_n (j := 2) (by decide +kernel) rfl) (
  fm (z_aload_n (j := 0) (by decide +kernel) rfl) (
  fm (z_iload_n (j := 3) (by decide +kernel) rfl) (
  fm (z_iconst (n := 1) (by decide +kernel) (by decide)) (
  fm (z_iadd (by decide +kernel)) (
  fm (z_sld (show decode cL_law 1651 = .ok (.iaload, 1) from by decide +kernel)) (
  fm (z_inv (idx := 210) rfl (by decide +kernel) wd_6_29 wd_6_30 wd_6_31 wd_1_7 wd_6_32 (by decide +kernel) ⟨Nat.le_of_ble_eq_true rfl, Nat.le_of_ble_eq_true rfl⟩) (
  fm (z_icmp_eq (off := 5) (by decide +kernel) (by decide)) (
  fm (z_iconst (n := 0) (by decide +kernel) (by decide)) (fn))))))))))))))))
def kL_t (L : Nat) (xs : Nat → Int32) : Cd := [(1660, s_iinc 3 6 1663), (1663, s_goto 18)]
set_option maxRecDepth 20000 in
theorem zL_t (L : Nat) (xs : Nat → Int32) : ∀ q ∈ kL_t L xs, SndG (some (L, xs)) RL cL_law 4 lawRet room_1 q.1 q.2 :=
  fm (z_iinc (n := 6) (by decide +kernel) (by decide) (by decide)) (
  fm (z_goto (off := (-1645)) (by decide +kernel) (by decide)) (fn))
