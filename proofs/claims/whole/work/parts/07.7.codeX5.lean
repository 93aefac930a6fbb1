/-! CODE of X5, by program -/
def kX5_again : Cd := [(0, s_aload 0 1), (1, s_pushi 96 3), (3, s_inv mX5_isTooLate 5 1 6), (6, s_if (fun x => x = 0) 16 9), (9, s_aload 0 10), (10, s_pushi (-1000005) 12), (12, s_inv mX5_finds 5 1 15), (15, s_iret), (16, s_aload 0 17), (17, s_inv mX5_saves 5 0 20), (20, s_pushi 0 21), (21, s_istore 1 22), (22, s_pushi 0 23), (23, s_istore 2 24), (24, s_iload 1 25), (25, s_pushi 96 27), (27, s_icmp (fun x y => y ≤ x) 98 30), (30, s_iload 2 31), (31, s_if (fun x => x = 0) 34 98), (34, s_aload 0 35), (35, s_inv mX5_hour 5 0 38), (38, s_istore 3 39), (39, s_iinc 1 1 42), (42, s_pushi 1 43), (43, s_istore 2 44), (44, s_pushi 0 45), (45, s_istore 4 47), (47, s_iload 4 49), (49, s_aload 0 50), (50, s_getf 5 0 53), (53, s_pushi 1 54), (54, s_iald 55), (55, s_icmp (fun x y => y ≤ x) 95 58), (58, s_iload 2 59), (59, s_if (fun x => x = 0) 87 62), (62, s_aload 0 63), (63, s_iload 4 65), (65, s_pushi 1 66), (66, s_inv mX5_its 5 2 69), (69, s_aload 0 70), (70, s_getf 5 2 73), (73, s_iload 4 75), (75, s_pushi 1 76), (76, s_invS mX5_at 2 79), (79, s_iald 80), (80, s_icmp (fun x y => x = y) 83 87), (83, s_pushi 1 84), (84, s_goto 88), (87, s_pushi 0 88), (88, s_istore 2 89), (89, s_iinc 4 1 92), (92, s_goto 47), (95, s_goto 24), (98, s_aload 0 99), (99, s_inv mX5_putsBack 5 0 102), (102, s_iload 2 103), (103, s_if (fun x => x = 0) 110 106), (106, s_iload 1 107), (107, s_goto 116), (110, s_aload 0 111), (111, s_pushi (-1000004) 113), (113, s_inv mX5_finds 5 1 116), (116, s_iret)]
set_option maxRecDepth 20000 in
theorem zX5_again : ∀ q ∈ kX5_again, Snd RX5 cX5_again 5 (some .int) (rmM mX5_again) q.1 q.2 :=
  fm (z_aload_n (j := 0) (by decide +kernel) rfl) (
  fm (z_bipush (n := 96) (by decide +kernel) (by decide)) (
  fm (z_inv (idx := 119) rfl (by decide +kernel) wd_4_158 wd_4_160 ws_37 wd_1_7 wd_4_161 (by decide +kernel) ⟨Nat.le_of_ble_eq_true rfl, Nat.le_of_ble_eq_true rfl⟩) (
  fm (z_if_eq (off := 10) (by decide +kernel) (by decide)) (
  fm (z_aload_n (j := 0) (by decide +kernel) rfl) (
  fm (z_ldc (i := 70) (by decide +kernel) wd_4_105) (
  fm (z_inv (idx := 58) rfl (by decide +kernel) wd_4_77 wd_4_79 ws_28 wd_1_7 wd_4_80 (by decide +kernel) ⟨Nat.le_of_ble_eq_true rfl, Nat.le_of_ble_eq_true rfl⟩) (
  fm (z_iret rfl (by decide +kernel)) (
  fm (z_aload_n (j := 0) (by decide +kernel) rfl) (
  fm (z_inv (idx := 130) rfl (by decide +kernel) wd_4_200 wd_4_202 ws_43 wd_1_7 wd_4_203 (by decide +kernel) ⟨Nat.le_of_ble_eq_true rfl, Nat.le_of_ble_eq_true rfl⟩) (
  fm (z_iconst (n := 0) (by decide +kernel) (by decide)) (
  fm (z_istore_n (j := 1) (by decide +kernel) rfl (by decide)) (
  fm (z_iconst (n := 0) (by decide +kernel) (by decide)) (
  fm (z_istore_n (j := 2) (by decide +kernel) rfl (by decide)) (
  fm (z_iload_n (j := 1) (by decide +kernel) rfl) (
  fm (z_bipush (n := 96) (by decide +kernel) (by decide)) (
  fm (z_icmp_ge (off := 71) (by decide +kernel) (by decide)) (
  fm (z_iload_n (j := 2) (by decide +kernel) rfl) (
  fm (z_if_ne (off := 67) (by decide +kernel) (by decide)) (
  fm (z_aload_n (j := 0) (by decide +kernel) rfl) (
  fm (z_inv (idx := 113) rfl (by decide +kernel) wd_4_166 wd_4_168 ws_39 wd_1_7 wd_4_169 (by decide +kernel) ⟨Nat.le_of_ble_eq_true rfl, Nat.le_of_ble_eq_true rfl⟩) (
  fm (z_istore_n (j := 3) (by decide +kernel) rfl (by decide)) (
  fm (z_iinc (n := 1) (by decide +kernel) (by decide) (by decide)) (
  fm (z_iconst (n := 1) (by decide +kernel) (by decide)) (
  fm (z_istore_n (j := 2) (by decide +kernel) rfl (by decide)) (
  fm (z_iconst (n := 0) (by decide +kernel) (by decide)) (
  fm (z_istore (i := 4) (by decide +kernel) (by decide)) (
  fm (z_iload (i := 4) (by decide +kernel)) (
  fm (z_aload_n (j := 0) (by decide +kernel) rfl) (
  fm (z_getf (idx := 7) awX5 rfl (by decide) wd_4_12 rfl (by decide +kernel)) (
  fm (z_iconst (n := 1) (by decide +kernel) (by decide)) (
  fm (z_iald (by decide +kernel)) (
  fm (z_icmp_ge (off := 40) (by decide +kernel) (by decide)) (
  fm (z_iload_n (j := 2) (by decide +kernel) rfl) (
  fm (z_if_eq (off := 28) (by decide +kernel) (by decide)) (
  fm (z_aload_n (j := 0) (by decide +kernel) rfl) (
  fm (z_iload (i := 4) (by decide +kernel)) (
  fm (z_iconst (n := 1) (by decide +kernel) (by decide)) (
  fm (z_inv (idx := 62) rfl (by decide +kernel) wd_4_98 wd_4_100 ws_30 wd_1_7 wd_4_101 (by decide +kernel) ⟨Nat.le_of_ble_eq_true rfl, Nat.le_of_ble_eq_true rfl⟩) (
  fm (z_aload_n (j := 0) (by decide +kernel) rfl) (
  fm (z_getf (idx := 16) awX5 rfl (by decide) wd_4_14 rfl (by decide +kernel)) (
  fm (z_iload (i := 4) (by decide +kernel)) (
  fm (z_iconst (n := 1) (by decide +kernel) (by decide)) (
  fm (z_invS (idx := 48) (by decide +kernel) wd_4_102 wd_4_103 wd_1_7 wd_4_104 (by decide +kernel) ⟨Nat.le_of_ble_eq_true rfl, Nat.le_of_ble_eq_true rfl⟩) (
  fm (z_iald (by decide +kernel)) (
  fm (z_icmp_ne (off := 7) (by decide +kernel) (by decide)) (
  fm (z_iconst (n := 1) (by decide +kernel) (by decide)) (
  fm (z_goto (off := 4) (by decide +kernel) (by decide)) (
  fm (z_iconst (n := 0) (by decide +kernel) (by decide)) (
  fm (z_istore_n (j := 2) (by decide +kernel) rfl (by decide)) (
  fm (z_iinc (n := 1) (by decide +kernel) (by decide) (by decide)) (
  fm (z_goto (off := (-45)) (by decide +kernel) (by decide)) (
  fm (z_goto (off := (-71)) (by decide +kernel) (by decide)) (
  fm (z_aload_n (j := 0) (by decide +kernel) rfl) (
  fm (z_inv (idx := 142) rfl (by decide +kernel) wd_4_216 wd_4_218 ws_47 wd_1_7 wd_4_219 (by decide +kernel) ⟨Nat.le_of_ble_eq_true rfl, Nat.le_of_ble_eq_true rfl⟩) (
  fm (z_iload_n (j := 2) (by decide +kernel) rfl) (
  fm (z_if_eq (off := 7) (by decide +kernel) (by decide)) (
  fm (z_iload_n (j := 1) (by decide +kernel) rfl) (
  fm (z_goto (off := 9) (by decide +kernel) (by decide)) (
  fm (z_aload_n (j := 0) (by decide +kernel) rfl) (
  fm (z_ldc (i := 145) (by decide +kernel) wd_4_224) (
  fm (z_inv (idx := 58) rfl (by decide +kernel) wd_4_77 wd_4_79 ws_28 wd_1_7 wd_4_80 (by decide +kernel) ⟨Nat.le_of_ble_eq_true rfl, Nat.le_of_ble_eq_true rfl⟩) (
  fm (z_iret rfl (by decide +kernel)) (fn)))))))))))))))))))))))))))))))))))))))))))))))))))))))))))))))
def kX5_ahead : Cd := [(0, s_iload 1 1), (1, s_invS mX5_isSpan 1 4), (4, s_if (fun x => x = 0) 25 7), (7, s_iload 2 8), (8, s_i2l 9), (9, s_pushl 0 10), (10, s_pushi 3 11), (11, s_aload 0 12), (12, s_getf 5 0 15), (15, s_pushi 1 16), (16, s_iald 17), (17, s_bin (fun x y => x + y) 18), (18, s_i2l 19), (19, s_invS mX5_in 3 22), (22, s_if (fun x => x = 0) 25 32), (25, s_aload 0 26), (26, s_pushi (-1000001) 28), (28, s_inv mX5_finds 5 1 31), (31, s_iret), (32, s_aload 0 33), (33, s_iload 1 34), (34, s_inv mX5_isTooLate 5 1 37), (37, s_if (fun x => x = 0) 47 40), (40, s_aload 0 41), (41, s_pushi (-1000005) 43), (43, s_inv mX5_finds 5 1 46), (46, s_iret), (47, s_aload 0 48), (48, s_inv mX5_saves 5 0 51), (51, s_aload 0 52), (52, s_iload 1 53), (53, s_inv mX5_hoursGo 5 1 56), (56, s_istore 3 57), (57, s_iload 2 58), (58, s_if (fun x => x = 0) 61 65), (61, s_iload 3 62), (62, s_goto 116), (65, s_iload 2 66), (66, s_pushi 1 67), (67, s_icmp (fun x y => x = y) 70 77), (70, s_aload 0 71), (71, s_inv mX5_emptySet 5 0 74), (74, s_goto 116), (77, s_iload 2 78), (78, s_pushi 2 79), (79, s_icmp (fun x y => x = y) 82 95), (82, s_pushi 4095 85), (85, s_aload 0 86), (86, s_inv mX5_everyPlace 5 0 89), (89, s_pushi (-1) 90), (90, s_bin (fun x y => x ^^^ y) 91), (91, s_bin (fun x y => x &&& y) 92), (92, s_goto 116), (95, s_iload 2 96), (96, s_pushi 3 97), (97, s_icmp (fun x y => x = y) 100 108), (100, s_aload 0 101), (101, s_pushi 3 102), (102, s_inv mX5_sumOf 5 1 105), (105, s_goto 116), (108, s_aload 0 109), (109, s_iload 2 110), (110, s_pushi 4 111), (111, s_bin (fun x y => x - y) 112), (112, s_pushi 1 113), (113, s_inv mX5_its 5 2 116), (116, s_istore 4 118), (118, s_aload 0 119), (119, s_inv mX5_putsBack 5 0 122), (122, s_iload 4 124), (124, s_iret)]
set_option maxRecDepth 20000 in
theorem zX5_ahead : ∀ q ∈ kX5_ahead, Snd RX5 cX5_ahead 5 (some .int) (rmM mX5_ahead) q.1 q.2 :=
  fm (z_iload_n (j := 1) (by decide +kernel) rfl) (
  fm (z_invS (idx := 127) (by decide +kernel) wd_4_196 wd_4_197 wd_1_7 wd_4_198 (by decide +kernel) ⟨Nat.le_of_ble_eq_true rfl, Nat.le_of_ble_eq_true rfl⟩) (
  fm (z_if_eq (off := 21) (by decide +kernel) (by decide)) (
  fm (z_iload_n (j := 2) (by decide +kernel) rfl) (
  fm (z_i2l (by decide +kernel)) (
  fm (z_lconst (n := 0) (by decide +kernel) (by decide)) (
  fm (z_iconst (n := 3) (by decide +kernel) (by decide)) (
  fm (z_aload_n (j := 0) (by decide +kernel) rfl) (
  fm (z_getf (idx := 7) awX5 rfl (by decide) wd_4_12 rfl (by decide +kernel)) (
  fm (z_iconst (n := 1) (by decide +kernel) (by decide)) (
  fm (z_iald (by decide +kernel)) (
  fm (z_iadd (by decide +kernel)) (
  fm (z_i2l (by decide +kernel)) (
  fm (z_invS (idx := 43) (by decide +kernel) wd_4_72 wd_4_73 wd_1_7 wd_4_74 (by decide +kernel) ⟨Nat.le_of_ble_eq_true rfl, Nat.le_of_ble_eq_true rfl⟩) (
  fm (z_if_ne (off := 10) (by decide +kernel) (by decide)) (
  fm (z_aload_n (j := 0) (by decide +kernel) rfl) (
  fm (z_ldc (i := 40) (by decide +kernel) wd_4_76) (
  fm (z_inv (idx := 58) rfl (by decide +kernel) wd_4_77 wd_4_79 ws_28 wd_1_7 wd_4_80 (by decide +kernel) ⟨Nat.le_of_ble_eq_true rfl, Nat.le_of_ble_eq_true rfl⟩) (
  fm (z_iret rfl (by decide +kernel)) (
  fm (z_aload_n (j := 0) (by decide +kernel) rfl) (
  fm (z_iload_n (j := 1) (by decide +kernel) rfl) (
  fm (z_inv (idx := 119) rfl (by decide +kernel) wd_4_158 wd_4_160 ws_37 wd_1_7 wd_4_161 (by decide +kernel) ⟨Nat.le_of_ble_eq_true rfl, Nat.le_of_ble_eq_true rfl⟩) (
  fm (z_if_eq (off := 10) (by decide +kernel) (by decide)) (
  fm (z_aload_n (j := 0) (by decide +kernel) rfl) (
  fm (z_ldc (i := 70) (by decide +kernel) wd_4_105) (
  fm (z_inv (idx := 58) rfl (by decide +kernel) wd_4_77 wd_4_79 ws_28 wd_1_7 wd_4_80 (by decide +kernel) ⟨Nat.le_of_ble_eq_true rfl, Nat.le_of_ble_eq_true rfl⟩) (
  fm (z_iret rfl (by decide +kernel)) (
  fm (z_aload_n (j := 0) (by decide +kernel) rfl) (
  fm (z_inv (idx := 130) rfl (by decide +kernel) wd_4_200 wd_4_202 ws_43 wd_1_7 wd_4_203 (by decide +kernel) ⟨Nat.le_of_ble_eq_true rfl, Nat.le_of_ble_eq_true rfl⟩) (
  fm (z_aload_n (j := 0) (by decide +kernel) rfl) (
  fm (z_iload_n (j := 1) (by decide +kernel) rfl) (
  fm (z_inv (idx := 122) rfl (by decide +kernel) wd_4_162 wd_4_164 ws_38 wd_1_7 wd_4_165 (by decide +kernel) ⟨Nat.le_of_ble_eq_true rfl, Nat.le_of_ble_eq_true rfl⟩) (
  fm (z_istore_n (j := 3) (by decide +kernel) rfl (by decide)) (
  fm (z_iload_n (j := 2) (by decide +kernel) rfl) (
  fm (z_if_ne (off := 7) (by decide +kernel) (by decide)) (
  fm (z_iload_n (j := 3) (by decide +kernel) rfl) (
  fm (z_goto (off := 54) (by decide +kernel) (by decide)) (
  fm (z_iload_n (j := 2) (by decide +kernel) rfl) (
  fm (z_iconst (n := 1) (by decide +kernel) (by decide)) (
  fm (z_icmp_ne (off := 10) (by decide +kernel) (by decide)) (
  fm (z_aload_n (j := 0) (by decide +kernel) rfl) (
  fm (z_inv (idx := 133) rfl (by decide +kernel) wd_4_204 wd_4_206 ws_44 wd_1_7 wd_4_207 (by decide +kernel) ⟨Nat.le_of_ble_eq_true rfl, Nat.le_of_ble_eq_true rfl⟩) (
  fm (z_goto (off := 42) (by decide +kernel) (by decide)) (
  fm (z_iload_n (j := 2) (by decide +kernel) rfl) (
  fm (z_iconst (n := 2) (by decide +kernel) (by decide)) (
  fm (z_icmp_ne (off := 16) (by decide +kernel) (by decide)) (
  fm (z_sipush (n := 4095) (by decide +kernel) (by decide)) (
  fm (z_aload_n (j := 0) (by decide +kernel) rfl) (
  fm (z_inv (idx := 136) rfl (by decide +kernel) wd_4_208 wd_4_210 ws_45 wd_1_7 wd_4_211 (by decide +kernel) ⟨Nat.le_of_ble_eq_true rfl, Nat.le_of_ble_eq_true rfl⟩) (
  fm (z_iconst (n := (-1)) (by decide +kernel) (by decide)) (
  fm (z_ixor (by decide +kernel)) (
  fm (z_iand (by decide +kernel)) (
  fm (z_goto (off := 24) (by decide +kernel) (by decide)) (
  fm (z_iload_n (j := 2) (by decide +kernel) rfl) (
  fm (z_iconst (n := 3) (by decide +kernel) (by decide)) (
  fm (z_icmp_ne (off := 11) (by decide +kernel) (by decide)) (
  fm (z_aload_n (j := 0) (by decide +kernel) rfl) (
  fm (z_iconst (n := 3) (by decide +kernel) (by decide)) (
  fm (z_inv (idx := 139) rfl (by decide +kernel) wd_4_212 wd_4_214 ws_46 wd_1_7 wd_4_215 (by decide +kernel) ⟨Nat.le_of_ble_eq_true rfl, Nat.le_of_ble_eq_true rfl⟩) (
  fm (z_goto (off := 11) (by decide +kernel) (by decide)) (
  fm (z_aload_n (j := 0) (by decide +kernel) rfl) (
  fm (z_iload_n (j := 2) (by decide +kernel) rfl) (
  fm (z_iconst (n := 4) (by decide +kernel) (by decide)) (
  fm (z_isub (by decide +kernel)) (
  fm (z_iconst (n := 1) (by decide +kernel) (by decide)) (
  fm (z_inv (idx := 62) rfl (by decide +kernel) wd_4_98 wd_4_100 ws_30 wd_1_7 wd_4_101 (by decide +kernel) ⟨Nat.le_of_ble_eq_true rfl, Nat.le_of_ble_eq_true rfl⟩) (
  fm (z_istore (i := 4) (by decide +kernel) (by decide)) (
  fm (z_aload_n (j := 0) (by decide +kernel) rfl) (
  fm (z_inv (idx := 142) rfl (by decide +kernel) wd_4_216 wd_4_218 ws_47 wd_1_7 wd_4_219 (by decide +kernel) ⟨Nat.le_of_ble_eq_true rfl, Nat.le_of_ble_eq_true rfl⟩) (
  fm (z_iload (i := 4) (by decide +kernel)) (
  fm (z_iret rfl (by decide +kernel)) (fn)))))))))))))))))))))))))))))))))))))))))))))))))))))))))))))))))))))))
def kX5_as : Cd := [(0, s_iload 1 1), (1, s_i2l 2), (2, s_pushl 0 3), (3, s_pushl 9 6), (6, s_invS mX5_in 3 9), (9, s_if (fun x => x = 0) 24 12), (12, s_iload 2 13), (13, s_i2l 14), (14, s_pushl 0 15), (15, s_pushl 6 18), (18, s_invS mX5_in 3 21), (21, s_if (fun x => x = 0) 24 31), (24, s_aload 0 25), (25, s_pushi (-1000001) 27), (27, s_inv mX5_finds 5 1 30), (30, s_iret), (31, s_aload 0 32), (32, s_getf 5 0 35), (35, s_pushi 68 37), (37, s_iload 1 38), (38, s_bin (fun x y => x + y) 39), (39, s_iald 40), (40, s_istore 3 41), (41, s_iload 3 42), (42, s_if (fun x => 0 ≤ x) 53 45), (45, s_aload 0 46), (46, s_pushi (-1000006) 49), (49, s_inv mX5_finds 5 1 52), (52, s_iret), (53, s_aload 0 54), (54, s_iload 3 55), (55, s_pushi 0 56), (56, s_inv mX5_its 5 2 59), (59, s_istore 4 61), (61, s_iload 2 62), (62, s_if (fun x => x = 0) 105 65), (65, s_iload 4 67), (67, s_iload 2 68), (68, s_icmp (fun x y => x = y) 105 71), (71, s_iload 2 72), (72, s_pushi 1 73), (73, s_icmp (fun x y => x = y) 76 82), (76, s_iload 4 78), (78, s_pushi 3 79), (79, s_icmp (fun x y => x = y) 105 82), (82, s_iload 2 83), (83, s_pushi 2 84), (84, s_icmp (fun x y => x = y) 87 93), (87, s_iload 4 89), (89, s_pushi 4 90), (90, s_icmp (fun x y => x = y) 105 93), (93, s_iload 2 94), (94, s_pushi 5 95), (95, s_icmp (fun x y => x = y) 98 109), (98, s_iload 4 100), (100, s_pushi 6 102), (102, s_icmp (fun x y => x = y) 105 109), (105, s_pushi 1 106), (106, s_goto 110), (109, s_pushi 0 110), (110, s_istore 5 112), (112, s_iload 5 114), (114, s_if (fun x => x = 0) 121 117), (117, s_iload 3 118), (118, s_goto 128), (121, s_aload 0 122), (122, s_pushi (-1000003) 125), (125, s_inv mX5_finds 5 1 128), (128, s_iret)]
set_option maxRecDepth 20000 in
theorem zX5_as : ∀ q ∈ kX5_as, Snd RX5 cX5_as 6 (some .int) (rmM mX5_as) q.1 q.2 :=
  fm (z_iload_n (j := 1) (by decide +kernel) rfl) (
  fm (z_i2l (by decide +kernel)) (
  fm (z_lconst (n := 0) (by decide +kernel) (by decide)) (
  fm (z_ldc2 (i := 292) (by decide +kernel) wd_5_199) (
  fm (z_invS (idx := 43) (by decide +kernel) wd_4_72 wd_4_73 wd_1_7 wd_4_74 (by decide +kernel) ⟨Nat.le_of_ble_eq_true rfl, Nat.le_of_ble_eq_true rfl⟩) (
  fm (z_if_eq (off := 15) (by decide +kernel) (by decide)) (
  fm (z_iload_n (j := 2) (by decide +kernel) rfl) (
  fm (z_i2l (by decide +kernel)) (
  fm (z_lconst (n := 0) (by decide +kernel) (by decide)) (
  fm (z_ldc2 (i := 65) (by decide +kernel) wd_4_93) (
  fm (z_invS (idx := 43) (by decide +kernel) wd_4_72 wd_4_73 wd_1_7 wd_4_74 (by decide +kernel) ⟨Nat.le_of_ble_eq_true rfl, Nat.le_of_ble_eq_true rfl⟩) (
  fm (z_if_ne (off := 10) (by decide +kernel) (by decide)) (
  fm (z_aload_n (j := 0) (by decide +kernel) rfl) (
  fm (z_ldc (i := 40) (by decide +kernel) wd_4_76) (
  fm (z_inv (idx := 58) rfl (by decide +kernel) wd_4_77 wd_4_79 ws_28 wd_1_7 wd_4_80 (by decide +kernel) ⟨Nat.le_of_ble_eq_true rfl, Nat.le_of_ble_eq_true rfl⟩) (
  fm (z_iret rfl (by decide +kernel)) (
  fm (z_aload_n (j := 0) (by decide +kernel) rfl) (
  fm (z_getf (idx := 7) awX5 rfl (by decide) wd_4_12 rfl (by decide +kernel)) (
  fm (z_bipush (n := 68) (by decide +kernel) (by decide)) (
  fm (z_iload_n (j := 1) (by decide +kernel) rfl) (
  fm (z_iadd (by decide +kernel)) (
  fm (z_iald (by decide +kernel)) (
  fm (z_istore_n (j := 3) (by decide +kernel) rfl (by decide)) (
  fm (z_iload_n (j := 3) (by decide +kernel) rfl) (
  fm (z_if_ge (off := 11) (by decide +kernel) (by decide)) (
  fm (z_aload_n (j := 0) (by decide +kernel) rfl) (
  fm (z_ldcw (i := 294) (by decide +kernel) wd_5_204) (
  fm (z_inv (idx := 58) rfl (by decide +kernel) wd_4_77 wd_4_79 ws_28 wd_1_7 wd_4_80 (by decide +kernel) ⟨Nat.le_of_ble_eq_true rfl, Nat.le_of_ble_eq_true rfl⟩) (
  fm (z_iret rfl (by decide +kernel)) (
  fm (z_aload_n (j := 0) (by decide +kernel) rfl) (
  fm (z_iload_n (j := 3) (by decide +kernel) rfl) (
  fm (z_iconst (n := 0) (by decide +kernel) (by decide)) (
  fm (z_inv (idx := 62) rfl (by decide +kernel) wd_4_98 wd_4_100 ws_30 wd_1_7 wd_4_101 (by decide +kernel) ⟨Nat.le_of_ble_eq_true rfl, Nat.le_of_ble_eq_true rfl⟩) (
  fm (z_istore (i := 4) (by decide +kernel) (by decide)) (
  fm (z_iload_n (j := 2) (by decide +kernel) rfl) (
  fm (z_if_eq (off := 43) (by decide +kernel) (by decide)) (
  fm (z_iload (i := 4) (by decide +kernel)) (
  fm (z_iload_n (j := 2) (by decide +kernel) rfl) (
  fm (z_icmp_eq (off := 37) (by decide +kernel) (by decide)) (
  fm (z_iload_n (j := 2) (by decide +kernel) rfl) (
  fm (z_iconst (n := 1) (by decide +kernel) (by decide)) (
  fm (z_icmp_ne (off := 9) (by decide +kernel) (by decide)) (
  fm (z_iload (i := 4) (by decide +kernel)) (
  fm (z_iconst (n := 3) (by decide +kernel) (by decide)) (
  fm (z_icmp_eq (off := 26) (by decide +kernel) (by decide)) (
  fm (z_iload_n (j := 2) (by decide +kernel) rfl) (
  fm (z_iconst (n := 2) (by decide +kernel) (by decide)) (
  fm (z_icmp_ne (off := 9) (by decide +kernel) (by decide)) (
  fm (z_iload (i := 4) (by decide +kernel)) (
  fm (z_iconst (n := 4) (by decide +kernel) (by decide)) (
  fm (z_icmp_eq (off := 15) (by decide +kernel) (by decide)) (
  fm (z_iload_n (j := 2) (by decide +kernel) rfl) (
  fm (z_iconst (n := 5) (by decide +kernel) (by decide)) (
  fm (z_icmp_ne (off := 14) (by decide +kernel) (by decide)) (
  fm (z_iload (i := 4) (by decide +kernel)) (
  fm (z_bipush (n := 6) (by decide +kernel) (by decide)) (
  fm (z_icmp_ne (off := 7) (by decide +kernel) (by decide)) (
  fm (z_iconst (n := 1) (by decide +kernel) (by decide)) (
  fm (z_goto (off := 4) (by decide +kernel) (by decide)) (
  fm (z_iconst (n := 0) (by decide +kernel) (by decide)) (
  fm (z_istore (i := 5) (by decide +kernel) (by decide)) (
  fm (z_iload (i := 5) (by decide +kernel)) (
  fm (z_if_eq (off := 7) (by decide +kernel) (by decide)) (
  fm (z_iload_n (j := 3) (by decide +kernel) rfl) (
  fm (z_goto (off := 10) (by decide +kernel) (by decide)) (
  fm (z_aload_n (j := 0) (by decide +kernel) rfl) (
  fm (z_ldcw (i := 295) (by decide +kernel) wd_5_205) (
  fm (z_inv (idx := 58) rfl (by decide +kernel) wd_4_77 wd_4_79 ws_28 wd_1_7 wd_4_80 (by decide +kernel) ⟨Nat.le_of_ble_eq_true rfl, Nat.le_of_ble_eq_true rfl⟩) (
  fm (z_iret rfl (by decide +kernel)) (fn)))))))))))))))))))))))))))))))))))))))))))))))))))))))))))))))))))))
def kX5_at : Cd := [(0, s_pushi 28 2), (2, s_pushi 5 3), (3, s_iload 0 4), (4, s_bin (fun x y => x * y) 5), (5, s_bin (fun x y => x + y) 6), (6, s_iload 1 7), (7, s_bin (fun x y => x + y) 8), (8, s_iret)]
set_option maxRecDepth 20000 in
theorem zX5_at : ∀ q ∈ kX5_at, Snd RX5 cX5_at 2 (some .int) (rmM mX5_at) q.1 q.2 :=
  fm (z_bipush (n := 28) (by decide +kernel) (by decide)) (
  fm (z_iconst (n := 5) (by decide +kernel) (by decide)) (
  fm (z_iload_n (j := 0) (by decide +kernel) rfl) (
  fm (z_imul (by decide +kernel)) (
  fm (z_iadd (by decide +kernel)) (
  fm (z_iload_n (j := 1) (by decide +kernel) rfl) (
  fm (z_iadd (by decide +kernel)) (
  fm (z_iret rfl (by decide +kernel)) (fn))))))))
def kX5_beside : Cd := [(0, s_aload 0 1), (1, s_iload 1 2), (2, s_inv mX5_isStall 5 1 5), (5, s_if (fun x => x = 0) 16 8), (8, s_aload 0 9), (9, s_iload 1 10), (10, s_inv mX5_besideSet 5 1 13), (13, s_goto 22), (16, s_aload 0 17), (17, s_pushi (-1000001) 19), (19, s_inv mX5_finds 5 1 22), (22, s_iret)]
set_option maxRecDepth 20000 in
theorem zX5_beside : ∀ q ∈ kX5_beside, Snd RX5 cX5_beside 2 (some .int) (rmM mX5_beside) q.1 q.2 :=
  fm (z_aload_n (j := 0) (by decide +kernel) rfl) (
  fm (z_iload_n (j := 1) (by decide +kernel) rfl) (
  fm (z_inv (idx := 76) rfl (by decide +kernel) wd_4_115 wd_4_117 ws_32 wd_1_7 wd_4_118 (by decide +kernel) ⟨Nat.le_of_ble_eq_true rfl, Nat.le_of_ble_eq_true rfl⟩) (
  fm (z_if_eq (off := 11) (by decide +kernel) (by decide)) (
  fm (z_aload_n (j := 0) (by decide +kernel) rfl) (
  fm (z_iload_n (j := 1) (by decide +kernel) rfl) (
  fm (z_inv (idx := 178) rfl (by decide +kernel) wd_5_58 wd_5_60 ws_54 wd_1_7 wd_5_61 (by decide +kernel) ⟨Nat.le_of_ble_eq_true rfl, Nat.le_of_ble_eq_true rfl⟩) (
  fm (z_goto (off := 9) (by decide +kernel) (by decide)) (
  fm (z_aload_n (j := 0) (by decide +kernel) rfl) (
  fm (z_ldc (i := 40) (by decide +kernel) wd_4_76) (
  fm (z_inv (idx := 58) rfl (by decide +kernel) wd_4_77 wd_4_79 ws_28 wd_1_7 wd_4_80 (by decide +kernel) ⟨Nat.le_of_ble_eq_true rfl, Nat.le_of_ble_eq_true rfl⟩) (
  fm (z_iret rfl (by decide +kernel)) (fn))))))))))))
def kX5_besideSet : Cd := [(0, s_pushi 0 1), (1, s_istore 2 2), (2, s_pushi 0 3), (3, s_istore 3 4), (4, s_iload 3 5), (5, s_aload 0 6), (6, s_getf 5 0 9), (9, s_pushi 1 10), (10, s_iald 11), (11, s_icmp (fun x y => y ≤ x) 39 14), (14, s_iload 2 15), (15, s_aload 0 16), (16, s_iload 1 17), (17, s_iload 3 18), (18, s_inv mX5_isBeside 5 2 21), (21, s_if (fun x => x = 0) 30 24), (24, s_pushi 1 25), (25, s_iload 3 26), (26, s_bin (fun x y => x <<< (y &&& 31)) 27), (27, s_goto 31), (30, s_pushi 0 31), (31, s_bin (fun x y => x ||| y) 32), (32, s_istore 2 33), (33, s_iinc 3 1 36), (36, s_goto 4), (39, s_iload 2 40), (40, s_iret)]
set_option maxRecDepth 20000 in
theorem zX5_besideSet : ∀ q ∈ kX5_besideSet, Snd RX5 cX5_besideSet 4 (some .int) (rmM mX5_besideSet) q.1 q.2 :=
  fm (z_iconst (n := 0) (by decide +kernel) (by decide)) (
  fm (z_istore_n (j := 2) (by decide +kernel) rfl (by decide)) (
  fm (z_iconst (n := 0) (by decide +kernel) (by decide)) (
  fm (z_istore_n (j := 3) (by decide +kernel) rfl (by decide)) (
  fm (z_iload_n (j := 3) (by decide +kernel) rfl) (
  fm (z_aload_n (j := 0) (by decide +kernel) rfl) (
  fm (z_getf (idx := 7) awX5 rfl (by decide) wd_4_12 rfl (by decide +kernel)) (
  fm (z_iconst (n := 1) (by decide +kernel) (by decide)) (
  fm (z_iald (by decide +kernel)) (
  fm (z_icmp_ge (off := 28) (by decide +kernel) (by decide)) (
  fm (z_iload_n (j := 2) (by decide +kernel) rfl) (
  fm (z_aload_n (j := 0) (by decide +kernel) rfl) (
  fm (z_iload_n (j := 1) (by decide +kernel) rfl) (
  fm (z_iload_n (j := 3) (by decide +kernel) rfl) (
  fm (z_inv (idx := 175) rfl (by decide +kernel) wd_5_62 wd_5_64 ws_55 wd_1_7 wd_5_65 (by decide +kernel) ⟨Nat.le_of_ble_eq_true rfl, Nat.le_of_ble_eq_true rfl⟩) (
  fm (z_if_eq (off := 9) (by decide +kernel) (by decide)) (
  fm (z_iconst (n := 1) (by decide +kernel) (by decide)) (
  fm (z_iload_n (j := 3) (by decide +kernel) rfl) (
  fm (z_ishl (by decide +kernel)) (
  fm (z_goto (off := 4) (by decide +kernel) (by decide)) (
  fm (z_iconst (n := 0) (by decide +kernel) (by decide)) (
  fm (z_ior (by decide +kernel)) (
  fm (z_istore_n (j := 2) (by decide +kernel) rfl (by decide)) (
  fm (z_iinc (n := 1) (by decide +kernel) (by decide) (by decide)) (
  fm (z_goto (off := (-32)) (by decide +kernel) (by decide)) (
  fm (z_iload_n (j := 2) (by decide +kernel) rfl) (
  fm (z_iret rfl (by decide +kernel)) (fn)))))))))))))))))))))))))))
def kX5_best : Cd := [(0, s_aload 0 1), (1, s_iload 1 2), (2, s_inv mX5_isStall 5 1 5), (5, s_if (fun x => x = 0) 15 8), (8, s_iload 2 9), (9, s_invS mX5_isDays 1 12), (12, s_if (fun x => x = 0) 15 22), (15, s_aload 0 16), (16, s_pushi (-1000001) 18), (18, s_inv mX5_finds 5 1 21), (21, s_iret), (22, s_aload 0 23), (23, s_iload 2 24), (24, s_inv mX5_isTooLate 5 1 27), (27, s_if (fun x => x = 0) 37 30), (30, s_aload 0 31), (31, s_pushi (-1000005) 33), (33, s_inv mX5_finds 5 1 36), (36, s_iret), (37, s_aload 0 38), (38, s_inv mX5_saves 5 0 41), (41, s_pushi (-1) 42), (42, s_istore 3 43), (43, s_pushi 0 44), (44, s_istore 4 46), (46, s_pushi 0 47), (47, s_istore 5 49), (49, s_iload 5 51), (51, s_pushi 12 53), (53, s_icmp (fun x y => y ≤ x) 90 56), (56, s_aload 0 57), (57, s_iload 1 58), (58, s_iload 5 60), (60, s_iload 2 61), (61, s_inv mX5_worthOf 5 3 64), (64, s_istore 6 66), (66, s_iload 3 67), (67, s_if (fun x => x < 0) 77 70), (70, s_iload 6 72), (72, s_iload 4 74), (74, s_icmp (fun x y => x ≤ y) 84 77), (77, s_iload 5 79), (79, s_istore 3 80), (80, s_iload 6 82), (82, s_istore 4 84), (84, s_iinc 5 1 87), (87, s_goto 49), (90, s_iload 3 91), (91, s_iret)]
set_option maxRecDepth 20000 in
theorem zX5_best : ∀ q ∈ kX5_best, Snd RX5 cX5_best 7 (some .int) (rmM mX5_best) q.1 q.2 :=
  fm (z_aload_n (j := 0) (by decide +kernel) rfl) (
  fm (z_iload_n (j := 1) (by decide +kernel) rfl) (
  fm (z_inv (idx := 76) rfl (by decide +kernel) wd_4_115 wd_4_117 ws_32 wd_1_7 wd_4_118 (by decide +kernel) ⟨Nat.le_of_ble_eq_true rfl, Nat.le_of_ble_eq_true rfl⟩) (
  fm (z_if_eq (off := 10) (by decide +kernel) (by decide)) (
  fm (z_iload_n (j := 2) (by decide +kernel) rfl) (
  fm (z_invS (idx := 169) (by decide +kernel) wd_5_39 wd_5_40 wd_1_7 wd_5_41 (by decide +kernel) ⟨Nat.le_of_ble_eq_true rfl, Nat.le_of_ble_eq_true rfl⟩) (
  fm (z_if_ne (off := 10) (by decide +kernel) (by decide)) (
  fm (z_aload_n (j := 0) (by decide +kernel) rfl) (
  fm (z_ldc (i := 40) (by decide +kernel) wd_4_76) (
  fm (z_inv (idx := 58) rfl (by decide +kernel) wd_4_77 wd_4_79 ws_28 wd_1_7 wd_4_80 (by decide +kernel) ⟨Nat.le_of_ble_eq_true rfl, Nat.le_of_ble_eq_true rfl⟩) (
  fm (z_iret rfl (by decide +kernel)) (
  fm (z_aload_n (j := 0) (by decide +kernel) rfl) (
  fm (z_iload_n (j := 2) (by decide +kernel) rfl) (
  fm (z_inv (idx := 119) rfl (by decide +kernel) wd_4_158 wd_4_160 ws_37 wd_1_7 wd_4_161 (by decide +kernel) ⟨Nat.le_of_ble_eq_true rfl, Nat.le_of_ble_eq_true rfl⟩) (
  fm (z_if_eq (off := 10) (by decide +kernel) (by decide)) (
  fm (z_aload_n (j := 0) (by decide +kernel) rfl) (
  fm (z_ldc (i := 70) (by decide +kernel) wd_4_105) (
  fm (z_inv (idx := 58) rfl (by decide +kernel) wd_4_77 wd_4_79 ws_28 wd_1_7 wd_4_80 (by decide +kernel) ⟨Nat.le_of_ble_eq_true rfl, Nat.le_of_ble_eq_true rfl⟩) (
  fm (z_iret rfl (by decide +kernel)) (
  fm (z_aload_n (j := 0) (by decide +kernel) rfl) (
  fm (z_inv (idx := 130) rfl (by decide +kernel) wd_4_200 wd_4_202 ws_43 wd_1_7 wd_4_203 (by decide +kernel) ⟨Nat.le_of_ble_eq_true rfl, Nat.le_of_ble_eq_true rfl⟩) (
  fm (z_iconst (n := (-1)) (by decide +kernel) (by decide)) (
  fm (z_istore_n (j := 3) (by decide +kernel) rfl (by decide)) (
  fm (z_iconst (n := 0) (by decide +kernel) (by decide)) (
  fm (z_istore (i := 4) (by decide +kernel) (by decide)) (
  fm (z_iconst (n := 0) (by decide +kernel) (by decide)) (
  fm (z_istore (i := 5) (by decide +kernel) (by decide)) (
  fm (z_iload (i := 5) (by decide +kernel)) (
  fm (z_bipush (n := 12) (by decide +kernel) (by decide)) (
  fm (z_icmp_ge (off := 37) (by decide +kernel) (by decide)) (
  fm (z_aload_n (j := 0) (by decide +kernel) rfl) (
  fm (z_iload_n (j := 1) (by decide +kernel) rfl) (
  fm (z_iload (i := 5) (by decide +kernel)) (
  fm (z_iload_n (j := 2) (by decide +kernel) rfl) (
  fm (z_inv (idx := 184) rfl (by decide +kernel) wd_5_86 wd_5_88 ws_57 wd_1_7 wd_5_89 (by decide +kernel) ⟨Nat.le_of_ble_eq_true rfl, Nat.le_of_ble_eq_true rfl⟩) (
  fm (z_istore (i := 6) (by decide +kernel) (by decide)) (
  fm (z_iload_n (j := 3) (by decide +kernel) rfl) (
  fm (z_if_lt (off := 10) (by decide +kernel) (by decide)) (
  fm (z_iload (i := 6) (by decide +kernel)) (
  fm (z_iload (i := 4) (by decide +kernel)) (
  fm (z_icmp_le (off := 10) (by decide +kernel) (by decide)) (
  fm (z_iload (i := 5) (by decide +kernel)) (
  fm (z_istore_n (j := 3) (by decide +kernel) rfl (by decide)) (
  fm (z_iload (i := 6) (by decide +kernel)) (
  fm (z_istore (i := 4) (by decide +kernel) (by decide)) (
  fm (z_iinc (n := 1) (by decide +kernel) (by decide) (by decide)) (
  fm (z_goto (off := (-38)) (by decide +kernel) (by decide)) (
  fm (z_iload_n (j := 3) (by decide +kernel) rfl) (
  fm (z_iret rfl (by decide +kernel)) (fn)))))))))))))))))))))))))))))))))))))))))))))))))
def kX5_bestOrder : Cd := [(0, s_aload 0 1), (1, s_inv mX5_saves 5 0 4), (4, s_aload 0 5), (5, s_inv mX5_firstOrder 5 0 8), (8, s_pushi (-1) 9), (9, s_istore 3 10), (10, s_pushi 1 11), (11, s_istore 4 13), (13, s_iload 4 15), (15, s_if (fun x => x = 0) 74 18), (18, s_aload 0 19), (19, s_inv mX5_lays 5 0 22), (22, s_aload 0 23), (23, s_iload 2 24), (24, s_inv mX5_hoursGo 5 1 27), (27, s_istore 5 29), (29, s_aload 0 30), (30, s_iload 5 32), (32, s_iload 3 33), (33, s_icmp (fun x y => x ≤ y) 45 36), (36, s_aload 0 37), (37, s_getf 5 5 40), (40, s_iload 1 41), (41, s_iald 42), (42, s_goto 49), (45, s_aload 0 46), (46, s_getf 5 6 49), (49, s_putf .int 5 6 52), (52, s_iload 5 54), (54, s_iload 3 55), (55, s_icmp (fun x y => x ≤ y) 63 58), (58, s_iload 5 60), (60, s_goto 64), (63, s_iload 3 64), (64, s_istore 3 65), (65, s_aload 0 66), (66, s_inv mX5_nextOrder 5 0 69), (69, s_istore 4 71), (71, s_goto 13), (74, s_aload 0 75), (75, s_inv mX5_putsBack 5 0 78), (78, s_iload 3 79), (79, s_iret)]
set_option maxRecDepth 20000 in
theorem zX5_bestOrder : ∀ q ∈ kX5_bestOrder, Snd RX5 cX5_bestOrder 6 (some .int) (rmM mX5_bestOrder) q.1 q.2 :=
  fm (z_aload_n (j := 0) (by decide +kernel) rfl) (
  fm (z_inv (idx := 130) rfl (by decide +kernel) wd_4_200 wd_4_202 ws_43 wd_1_7 wd_4_203 (by decide +kernel) ⟨Nat.le_of_ble_eq_true rfl, Nat.le_of_ble_eq_true rfl⟩) (
  fm (z_aload_n (j := 0) (by decide +kernel) rfl) (
  fm (z_inv (idx := 147) rfl (by decide +kernel) wd_5_15 wd_5_17 ws_50 wd_1_7 wd_5_18 (by decide +kernel) ⟨Nat.le_of_ble_eq_true rfl, Nat.le_of_ble_eq_true rfl⟩) (
  fm (z_iconst (n := (-1)) (by decide +kernel) (by decide)) (
  fm (z_istore_n (j := 3) (by decide +kernel) rfl (by decide)) (
  fm (z_iconst (n := 1) (by decide +kernel) (by decide)) (
  fm (z_istore (i := 4) (by decide +kernel) (by decide)) (
  fm (z_iload (i := 4) (by decide +kernel)) (
  fm (z_if_eq (off := 59) (by decide +kernel) (by decide)) (
  fm (z_aload_n (j := 0) (by decide +kernel) rfl) (
  fm (z_inv (idx := 150) rfl (by decide +kernel) wd_5_19 wd_5_21 ws_51 wd_1_7 wd_5_22 (by decide +kernel) ⟨Nat.le_of_ble_eq_true rfl, Nat.le_of_ble_eq_true rfl⟩) (
  fm (z_aload_n (j := 0) (by decide +kernel) rfl) (
  fm (z_iload_n (j := 2) (by decide +kernel) rfl) (
  fm (z_inv (idx := 122) rfl (by decide +kernel) wd_4_162 wd_4_164 ws_38 wd_1_7 wd_4_165 (by decide +kernel) ⟨Nat.le_of_ble_eq_true rfl, Nat.le_of_ble_eq_true rfl⟩) (
  fm (z_istore (i := 5) (by decide +kernel) (by decide)) (
  fm (z_aload_n (j := 0) (by decide +kernel) rfl) (
  fm (z_iload (i := 5) (by decide +kernel)) (
  fm (z_iload_n (j := 3) (by decide +kernel) rfl) (
  fm (z_icmp_le (off := 12) (by decide +kernel) (by decide)) (
  fm (z_aload_n (j := 0) (by decide +kernel) rfl) (
  fm (z_getf (idx := 22) awX5 rfl (by decide) wd_4_17 rfl (by decide +kernel)) (
  fm (z_iload_n (j := 1) (by decide +kernel) rfl) (
  fm (z_iald (by decide +kernel)) (
  fm (z_goto (off := 7) (by decide +kernel) (by decide)) (
  fm (z_aload_n (j := 0) (by decide +kernel) rfl) (
  fm (z_getf (idx := 153) awX5 rfl (by decide) wd_4_18 rfl (by decide +kernel)) (
  fm (z_putf (idx := 153) tyX5 tyX5_ok nmX5 awX5 rfl (by decide) wd_4_18 rfl rfl (by decide +kernel) (by decide +kernel)) (
  fm (z_iload (i := 5) (by decide +kernel)) (
  fm (z_iload_n (j := 3) (by decide +kernel) rfl) (
  fm (z_icmp_le (off := 8) (by decide +kernel) (by decide)) (
  fm (z_iload (i := 5) (by decide +kernel)) (
  fm (z_goto (off := 4) (by decide +kernel) (by decide)) (
  fm (z_iload_n (j := 3) (by decide +kernel) rfl) (
  fm (z_istore_n (j := 3) (by decide +kernel) rfl (by decide)) (
  fm (z_aload_n (j := 0) (by decide +kernel) rfl) (
  fm (z_inv (idx := 157) rfl (by decide +kernel) wd_5_23 wd_5_25 ws_52 wd_1_7 wd_5_26 (by decide +kernel) ⟨Nat.le_of_ble_eq_true rfl, Nat.le_of_ble_eq_true rfl⟩) (
  fm (z_istore (i := 4) (by decide +kernel) (by decide)) (
  fm (z_goto (off := (-58)) (by decide +kernel) (by decide)) (
  fm (z_aload_n (j := 0) (by decide +kernel) rfl) (
  fm (z_inv (idx := 142) rfl (by decide +kernel) wd_4_216 wd_4_218 ws_47 wd_1_7 wd_4_219 (by decide +kernel) ⟨Nat.le_of_ble_eq_true rfl, Nat.le_of_ble_eq_true rfl⟩) (
  fm (z_iload_n (j := 3) (by decide +kernel) rfl) (
  fm (z_iret rfl (by decide +kernel)) (fn)))))))))))))))))))))))))))))))))))))))))))
def kX5_byteAt : Cd := [(0, s_iload 1 1), (1, s_aload 0 2), (2, s_getf 5 8 5), (5, s_icmp (fun x y => y ≤ x) 17 8), (8, s_aload 0 9), (9, s_getf 5 7 12), (12, s_iload 1 13), (13, s_iald 14), (14, s_goto 18), (17, s_pushi (-1) 18), (18, s_iret)]
set_option maxRecDepth 20000 in
theorem zX5_byteAt : ∀ q ∈ kX5_byteAt, Snd RX5 cX5_byteAt 2 (some .int) (rmM mX5_byteAt) q.1 q.2 :=
  fm (z_iload_n (j := 1) (by decide +kernel) rfl) (
  fm (z_aload_n (j := 0) (by decide +kernel) rfl) (
  fm (z_getf (idx := 194) awX5 rfl (by decide) wd_4_20 rfl (by decide +kernel)) (
  fm (z_icmp_ge (off := 12) (by decide +kernel) (by decide)) (
  fm (z_aload_n (j := 0) (by decide +kernel) rfl) (
  fm (z_getf (idx := 25) awX5 rfl (by decide) wd_4_19 rfl (by decide +kernel)) (
  fm (z_iload_n (j := 1) (by decide +kernel) rfl) (
  fm (z_iald (by decide +kernel)) (
  fm (z_goto (off := 4) (by decide +kernel) (by decide)) (
  fm (z_iconst (n := (-1)) (by decide +kernel) (by decide)) (
  fm (z_iret rfl (by decide +kernel)) (fn)))))))))))
def kX5_change : Cd := [(0, s_aload 0 1), (1, s_iload 1 2), (2, s_inv mX5_isStall 5 1 5), (5, s_if (fun x => x = 0) 39 8), (8, s_iload 2 9), (9, s_if (fun x => x = 0) 17 12), (12, s_iload 2 13), (13, s_pushi 2 14), (14, s_icmp (fun x y => x = y) 17 39), (17, s_iload 3 18), (18, s_i2l 19), (19, s_pushl 0 20), (20, s_iload 2 21), (21, s_if (fun x => x = 0) 24 30), (24, s_pushl 6 27), (27, s_goto 33), (30, s_pushl 99 33), (33, s_invS mX5_in 3 36), (36, s_if (fun x => x = 0) 39 46), (39, s_aload 0 40), (40, s_pushi (-1000001) 42), (42, s_inv mX5_finds 5 1 45), (45, s_iret), (46, s_aload 0 47), (47, s_iload 1 48), (48, s_iload 2 49), (49, s_inv mX5_its 5 2 52), (52, s_istore 4 54), (54, s_aload 0 55), (55, s_getf 5 0 58), (58, s_iload 1 59), (59, s_iload 2 60), (60, s_invS mX5_at 2 63), (63, s_iload 3 64), (64, s_iast 65), (65, s_iload 4 67), (67, s_iret)]
set_option maxRecDepth 20000 in
theorem zX5_change : ∀ q ∈ kX5_change, Snd RX5 cX5_change 5 (some .int) (rmM mX5_change) q.1 q.2 :=
  fm (z_aload_n (j := 0) (by decide +kernel) rfl) (
  fm (z_iload_n (j := 1) (by decide +kernel) rfl) (
  fm (z_inv (idx := 76) rfl (by decide +kernel) wd_4_115 wd_4_117 ws_32 wd_1_7 wd_4_118 (by decide +kernel) ⟨Nat.le_of_ble_eq_true rfl, Nat.le_of_ble_eq_true rfl⟩) (
  fm (z_if_eq (off := 34) (by decide +kernel) (by decide)) (
  fm (z_iload_n (j := 2) (by decide +kernel) rfl) (
  fm (z_if_eq (off := 8) (by decide +kernel) (by decide)) (
  fm (z_iload_n (j := 2) (by decide +kernel) rfl) (
  fm (z_iconst (n := 2) (by decide +kernel) (by decide)) (
  fm (z_icmp_ne (off := 25) (by decide +kernel) (by decide)) (
  fm (z_iload_n (j := 3) (by decide +kernel) rfl) (
  fm (z_i2l (by decide +kernel)) (
  fm (z_lconst (n := 0) (by decide +kernel) (by decide)) (
  fm (z_iload_n (j := 2) (by decide +kernel) rfl) (
  fm (z_if_ne (off := 9) (by decide +kernel) (by decide)) (
  fm (z_ldc2 (i := 65) (by decide +kernel) wd_4_93) (
  fm (z_goto (off := 6) (by decide +kernel) (by decide)) (
  fm (z_ldc2 (i := 85) (by decide +kernel) wd_4_131) (
  fm (z_invS (idx := 43) (by decide +kernel) wd_4_72 wd_4_73 wd_1_7 wd_4_74 (by decide +kernel) ⟨Nat.le_of_ble_eq_true rfl, Nat.le_of_ble_eq_true rfl⟩) (
  fm (z_if_ne (off := 10) (by decide +kernel) (by decide)) (
  fm (z_aload_n (j := 0) (by decide +kernel) rfl) (
  fm (z_ldc (i := 40) (by decide +kernel) wd_4_76) (
  fm (z_inv (idx := 58) rfl (by decide +kernel) wd_4_77 wd_4_79 ws_28 wd_1_7 wd_4_80 (by decide +kernel) ⟨Nat.le_of_ble_eq_true rfl, Nat.le_of_ble_eq_true rfl⟩) (
  fm (z_iret rfl (by decide +kernel)) (
  fm (z_aload_n (j := 0) (by decide +kernel) rfl) (
  fm (z_iload_n (j := 1) (by decide +kernel) rfl) (
  fm (z_iload_n (j := 2) (by decide +kernel) rfl) (
  fm (z_inv (idx := 62) rfl (by decide +kernel) wd_4_98 wd_4_100 ws_30 wd_1_7 wd_4_101 (by decide +kernel) ⟨Nat.le_of_ble_eq_true rfl, Nat.le_of_ble_eq_true rfl⟩) (
  fm (z_istore (i := 4) (by decide +kernel) (by decide)) (
  fm (z_aload_n (j := 0) (by decide +kernel) rfl) (
  fm (z_getf (idx := 7) awX5 rfl (by decide) wd_4_12 rfl (by decide +kernel)) (
  fm (z_iload_n (j := 1) (by decide +kernel) rfl) (
  fm (z_iload_n (j := 2) (by decide +kernel) rfl) (
  fm (z_invS (idx := 48) (by decide +kernel) wd_4_102 wd_4_103 wd_1_7 wd_4_104 (by decide +kernel) ⟨Nat.le_of_ble_eq_true rfl, Nat.le_of_ble_eq_true rfl⟩) (
  fm (z_iload_n (j := 3) (by decide +kernel) rfl) (
  fm (z_iast (by decide +kernel)) (
  fm (z_iload (i := 4) (by decide +kernel)) (
  fm (z_iret rfl (by decide +kernel)) (fn)))))))))))))))))))))))))))))))))))))
def kX5_coinOf : Cd := [(0, s_aload 0 1), (1, s_iload 2 2), (2, s_inv mX5_hoursGo 5 1 5), (5, s_istore 3 6), (6, s_aload 0 7), (7, s_iload 1 8), (8, s_pushi 3 9), (9, s_inv mX5_its 5 2 12), (12, s_istore 4 14), (14, s_aload 0 15), (15, s_inv mX5_putsBack 5 0 18), (18, s_iload 4 20), (20, s_iret)]
set_option maxRecDepth 20000 in
theorem zX5_coinOf : ∀ q ∈ kX5_coinOf, Snd RX5 cX5_coinOf 5 (some .int) (rmM mX5_coinOf) q.1 q.2 :=
  fm (z_aload_n (j := 0) (by decide +kernel) rfl) (
  fm (z_iload_n (j := 2) (by decide +kernel) rfl) (
  fm (z_inv (idx := 122) rfl (by decide +kernel) wd_4_162 wd_4_164 ws_38 wd_1_7 wd_4_165 (by decide +kernel) ⟨Nat.le_of_ble_eq_true rfl, Nat.le_of_ble_eq_true rfl⟩) (
  fm (z_istore_n (j := 3) (by decide +kernel) rfl (by decide)) (
  fm (z_aload_n (j := 0) (by decide +kernel) rfl) (
  fm (z_iload_n (j := 1) (by decide +kernel) rfl) (
  fm (z_iconst (n := 3) (by decide +kernel) (by decide)) (
  fm (z_inv (idx := 62) rfl (by decide +kernel) wd_4_98 wd_4_100 ws_30 wd_1_7 wd_4_101 (by decide +kernel) ⟨Nat.le_of_ble_eq_true rfl, Nat.le_of_ble_eq_true rfl⟩) (
  fm (z_istore (i := 4) (by decide +kernel) (by decide)) (
  fm (z_aload_n (j := 0) (by decide +kernel) rfl) (
  fm (z_inv (idx := 142) rfl (by decide +kernel) wd_4_216 wd_4_218 ws_47 wd_1_7 wd_4_219 (by decide +kernel) ⟨Nat.le_of_ble_eq_true rfl, Nat.le_of_ble_eq_true rfl⟩) (
  fm (z_iload (i := 4) (by decide +kernel)) (
  fm (z_iret rfl (by decide +kernel)) (fn)))))))))))))
def kX5_copy : Cd := [(0, s_iload 1 1), (1, s_invS mX5_isOne 1 4), (4, s_if (fun x => x = 0) 14 7), (7, s_iload 3 8), (8, s_invS mX5_isOne 1 11), (11, s_if (fun x => x = 0) 14 21), (14, s_aload 0 15), (15, s_pushi (-1000001) 17), (17, s_inv mX5_finds 5 1 20), (20, s_iret), (21, s_aload 0 22), (22, s_getf 5 13 25), (25, s_iload 1 26), (26, s_iald 27), (27, s_if (fun x => x = 0) 39 30), (30, s_aload 0 31), (31, s_getf 5 13 34), (34, s_iload 3 35), (35, s_iald 36), (36, s_if (fun x => x = 0) 39 47), (39, s_aload 0 40), (40, s_pushi (-1000006) 43), (43, s_inv mX5_finds 5 1 46), (46, s_iret), (47, s_aload 0 48), (48, s_getf 5 13 51), (51, s_iload 1 52), (52, s_iald 53), (53, s_aload 0 54), (54, s_getf 5 13 57), (57, s_iload 3 58), (58, s_iald 59), (59, s_icmp (fun x y => x = y) 70 62), (62, s_aload 0 63), (63, s_pushi (-1000003) 66), (66, s_inv mX5_finds 5 1 69), (69, s_iret), (70, s_iload 2 71), (71, s_if (fun x => x < 0) 111 74), (74, s_iload 4 76), (76, s_if (fun x => x < 0) 111 79), (79, s_iload 5 81), (81, s_if (fun x => x < 0) 111 84), (84, s_iload 5 86), (86, s_aload 0 87), (87, s_getf 5 14 90), (90, s_iload 1 91), (91, s_iald 92), (92, s_iload 2 93), (93, s_bin (fun x y => x - y) 94), (94, s_icmp (fun x y => y < x) 111 97), (97, s_iload 5 99), (99, s_aload 0 100), (100, s_getf 5 14 103), (103, s_iload 3 104), (104, s_iald 105), (105, s_iload 4 107), (107, s_bin (fun x y => x - y) 108), (108, s_icmp (fun x y => x ≤ y) 118 111), (111, s_aload 0 112), (112, s_pushi (-1000001) 114), (114, s_inv mX5_finds 5 1 117), (117, s_iret), (118, s_pushi 0 119), (119, s_istore 6 121), (121, s_iload 6 123), (123, s_iload 5 125), (125, s_icmp (fun x y => y ≤ x) 155 128), (128, s_aload 0 129), (129, s_getf 5 16 132), (132, s_iload 6 134), (134, s_aload 0 135), (135, s_getf 5 15 138), (138, s_pushi 40 140), (140, s_iload 1 141), (141, s_bin (fun x y => x * y) 142), (142, s_iload 2 143), (143, s_bin (fun x y => x + y) 144), (144, s_iload 6 146), (146, s_bin (fun x y => x + y) 147), (147, s_iald 148), (148, s_iast 149), (149, s_iinc 6 1 152), (152, s_goto 121), (155, s_pushi 0 156), (156, s_istore 6 158), (158, s_iload 6 160), (160, s_iload 5 162), (162, s_icmp (fun x y => y ≤ x) 193 165), (165, s_aload 0 166), (166, s_getf 5 15 169), (169, s_pushi 40 171), (171, s_iload 3 172), (172, s_bin (fun x y => x * y) 173), (173, s_iload 4 175), (175, s_bin (fun x y => x + y) 176), (176, s_iload 6 178), (178, s_bin (fun x y => x + y) 179), (179, s_aload 0 180), (180, s_getf 5 16 183), (183, s_iload 6 185), (185, s_iald 186), (186, s_iast 187), (187, s_iinc 6 1 190), (190, s_goto 158), (193, s_iload 5 195), (195, s_iret)]
set_option maxRecDepth 20000 in
theorem zX5_copy : ∀ q ∈ kX5_copy, Snd RX5 cX5_copy 7 (some .int) (rmM mX5_copy) q.1 q.2 :=
  fm (z_iload_n (j := 1) (by decide +kernel) rfl) (
  fm (z_invS (idx := 298) (by decide +kernel) wd_5_210 wd_5_211 wd_1_7 wd_5_212 (by decide +kernel) ⟨Nat.le_of_ble_eq_true rfl, Nat.le_of_ble_eq_true rfl⟩) (
  fm (z_if_eq (off := 10) (by decide +kernel) (by decide)) (
  fm (z_iload_n (j := 3) (by decide +kernel) rfl) (
  fm (z_invS (idx := 298) (by decide +kernel) wd_5_210 wd_5_211 wd_1_7 wd_5_212 (by decide +kernel) ⟨Nat.le_of_ble_eq_true rfl, Nat.le_of_ble_eq_true rfl⟩) (
  fm (z_if_ne (off := 10) (by decide +kernel) (by decide)) (
  fm (z_aload_n (j := 0) (by decide +kernel) rfl) (
  fm (z_ldc (i := 40) (by decide +kernel) wd_4_76) (
  fm (z_inv (idx := 58) rfl (by decide +kernel) wd_4_77 wd_4_79 ws_28 wd_1_7 wd_4_80 (by decide +kernel) ⟨Nat.le_of_ble_eq_true rfl, Nat.le_of_ble_eq_true rfl⟩) (
  fm (z_iret rfl (by decide +kernel)) (
  fm (z_aload_n (j := 0) (by decide +kernel) rfl) (
  fm (z_getf (idx := 28) awX5 rfl (by decide) wd_4_25 rfl (by decide +kernel)) (
  fm (z_iload_n (j := 1) (by decide +kernel) rfl) (
  fm (z_iald (by decide +kernel)) (
  fm (z_if_eq (off := 12) (by decide +kernel) (by decide)) (
  fm (z_aload_n (j := 0) (by decide +kernel) rfl) (
  fm (z_getf (idx := 28) awX5 rfl (by decide) wd_4_25 rfl (by decide +kernel)) (
  fm (z_iload_n (j := 3) (by decide +kernel) rfl) (
  fm (z_iald (by decide +kernel)) (
  fm (z_if_ne (off := 11) (by decide +kernel) (by decide)) (
  fm (z_aload_n (j := 0) (by decide +kernel) rfl) (
  fm (z_ldcw (i := 294) (by decide +kernel) wd_5_204) (
  fm (z_inv (idx := 58) rfl (by decide +kernel) wd_4_77 wd_4_79 ws_28 wd_1_7 wd_4_80 (by decide +kernel) ⟨Nat.le_of_ble_eq_true rfl, Nat.le_of_ble_eq_true rfl⟩) (
  fm (z_iret rfl (by decide +kernel)) (
  fm (z_aload_n (j := 0) (by decide +kernel) rfl) (
  fm (z_getf (idx := 28) awX5 rfl (by decide) wd_4_25 rfl (by decide +kernel)) (
  fm (z_iload_n (j := 1) (by decide +kernel) rfl) (
  fm (z_iald (by decide +kernel)) (
  fm (z_aload_n (j := 0) (by decide +kernel) rfl) (
  fm (z_getf (idx := 28) awX5 rfl (by decide) wd_4_25 rfl (by decide +kernel)) (
  fm (z_iload_n (j := 3) (by decide +kernel) rfl) (
  fm (z_iald (by decide +kernel)) (
  fm (z_icmp_eq (off := 11) (by decide +kernel) (by decide)) (
  fm (z_aload_n (j := 0) (by decide +kernel) rfl) (
  fm (z_ldcw (i := 295) (by decide +kernel) wd_5_205) (
  fm (z_inv (idx := 58) rfl (by decide +kernel) wd_4_77 wd_4_79 ws_28 wd_1_7 wd_4_80 (by decide +kernel) ⟨Nat.le_of_ble_eq_true rfl, Nat.le_of_ble_eq_true rfl⟩) (
  fm (z_iret rfl (by decide +kernel)) (
  fm (z_iload_n (j := 2) (by decide +kernel) rfl) (
  fm (z_if_lt (off := 40) (by decide +kernel) (by decide)) (
  fm (z_iload (i := 4) (by decide +kernel)) (
  fm (z_if_lt (off := 35) (by decide +kernel) (by decide)) (
  fm (z_iload (i := 5) (by decide +kernel)) (
  fm (z_if_lt (off := 30) (by decide +kernel) (by decide)) (
  fm (z_iload (i := 5) (by decide +kernel)) (
  fm (z_aload_n (j := 0) (by decide +kernel) rfl) (
  fm (z_getf (idx := 31) awX5 rfl (by decide) wd_4_26 rfl (by decide +kernel)) (
  fm (z_iload_n (j := 1) (by decide +kernel) rfl) (
  fm (z_iald (by decide +kernel)) (
  fm (z_iload_n (j := 2) (by decide +kernel) rfl) (
  fm (z_isub (by decide +kernel)) (
  fm (z_icmp_gt (off := 17) (by decide +kernel) (by decide)) (
  fm (z_iload (i := 5) (by decide +kernel)) (
  fm (z_aload_n (j := 0) (by decide +kernel) rfl) (
  fm (z_getf (idx := 31) awX5 rfl (by decide) wd_4_26 rfl (by decide +kernel)) (
  fm (z_iload_n (j := 3) (by decide +kernel) rfl) (
  fm (z_iald (by decide +kernel)) (
  fm (z_iload (i := 4) (by decide +kernel)) (
  fm (z_isub (by decide +kernel)) (
  fm (z_icmp_le (off := 10) (by decide +kernel) (by decide)) (
  fm (z_aload_n (j := 0) (by decide +kernel) rfl) (
  fm (z_ldc (i := 40) (by decide +kernel) wd_4_76) (
  fm (z_inv (idx := 58) rfl (by decide +kernel) wd_4_77 wd_4_79 ws_28 wd_1_7 wd_4_80 (by decide +kernel) ⟨Nat.le_of_ble_eq_true rfl, Nat.le_of_ble_eq_true rfl⟩) (
  fm (z_iret rfl (by decide +kernel)) (
  fm (z_iconst (n := 0) (by decide +kernel) (by decide)) (
  fm (z_istore (i := 6) (by decide +kernel) (by decide)) (
  fm (z_iload (i := 6) (by decide +kernel)) (
  fm (z_iload (i := 5) (by decide +kernel)) (
  fm (z_icmp_ge (off := 30) (by decide +kernel) (by decide)) (
  fm (z_aload_n (j := 0) (by decide +kernel) rfl) (
  fm (z_getf (idx := 37) awX5 rfl (by decide) wd_4_28 rfl (by decide +kernel)) (
  fm (z_iload (i := 6) (by decide +kernel)) (
  fm (z_aload_n (j := 0) (by decide +kernel) rfl) (
  fm (z_getf (idx := 34) awX5 rfl (by decide) wd_4_27 rfl (by decide +kernel)) (
  fm (z_bipush (n := 40) (by decide +kernel) (by decide)) (
  fm (z_iload_n (j := 1) (by decide +kernel) rfl) (
  fm (z_imul (by decide +kernel)) (
  fm (z_iload_n (j := 2) (by decide +kernel) rfl) (
  fm (z_iadd (by decide +kernel)) (
  fm (z_iload (i := 6) (by decide +kernel)) (
  fm (z_iadd (by decide +kernel)) (
  fm (z_iald (by decide +kernel)) (
  fm (z_iast (by decide +kernel)) (
  fm (z_iinc (n := 1) (by decide +kernel) (by decide) (by decide)) (
  fm (z_goto (off := (-31)) (by decide +kernel) (by decide)) (
  fm (z_iconst (n := 0) (by decide +kernel) (by decide)) (
  fm (z_istore (i := 6) (by decide +kernel) (by decide)) (
  fm (z_iload (i := 6) (by decide +kernel)) (
  fm (z_iload (i := 5) (by decide +kernel)) (
  fm (z_icmp_ge (off := 31) (by decide +kernel) (by decide)) (
  fm (z_aload_n (j := 0) (by decide +kernel) rfl) (
  fm (z_getf (idx := 34) awX5 rfl (by decide) wd_4_27 rfl (by decide +kernel)) (
  fm (z_bipush (n := 40) (by decide +kernel) (by decide)) (
  fm (z_iload_n (j := 3) (by decide +kernel) rfl) (
  fm (z_imul (by decide +kernel)) (
  fm (z_iload (i := 4) (by decide +kernel)) (
  fm (z_iadd (by decide +kernel)) (
  fm (z_iload (i := 6) (by decide +kernel)) (
  fm (z_iadd (by decide +kernel)) (
  fm (z_aload_n (j := 0) (by decide +kernel) rfl) (
  fm (z_getf (idx := 37) awX5 rfl (by decide) wd_4_28 rfl (by decide +kernel)) (
  fm (z_iload (i := 6) (by decide +kernel)) (
  fm (z_iald (by decide +kernel)) (
  fm (z_iast (by decide +kernel)) (
  fm (z_iinc (n := 1) (by decide +kernel) (by decide) (by decide)) (
  fm (z_goto (off := (-32)) (by decide +kernel) (by decide)) (
  fm (z_iload (i := 5) (by decide +kernel)) (
  fm (z_iret rfl (by decide +kernel)) (fn)))))))))))))))))))))))))))))))))))))))))))))))))))))))))))))))))))))))))))))))))))))))))))))))))))))))))))
def kX5_count : Cd := [(0, s_iload 1 1), (1, s_sw [(0, 48), (1, 55), (2, 62), (3, 68), (4, 74), (5, 79), (6, 84), (7, 91)] 96), (48, s_aload 0 49), (49, s_getf 5 0 52), (52, s_pushi 0 53), (53, s_iald 54), (54, s_iret), (55, s_aload 0 56), (56, s_getf 5 0 59), (59, s_pushi 1 60), (60, s_iald 61), (61, s_iret), (62, s_aload 0 63), (63, s_pushi 2 64), (64, s_inv mX5_sumOf 5 1 67), (67, s_iret), (68, s_aload 0 69), (69, s_pushi 3 70), (70, s_inv mX5_sumOf 5 1 73), (73, s_iret), (74, s_aload 0 75), (75, s_inv mX5_visitsOfAll 5 0 78), (78, s_iret), (79, s_aload 0 80), (80, s_getf 5 8 83), (83, s_iret), (84, s_aload 0 85), (85, s_getf 5 0 88), (88, s_pushi 3 89), (89, s_iald 90), (90, s_iret), (91, s_aload 0 92), (92, s_inv mX5_held 5 0 95), (95, s_iret), (96, s_aload 0 97), (97, s_pushi (-1000001) 99), (99, s_inv mX5_finds 5 1 102), (102, s_iret)]
set_option maxRecDepth 20000 in
theorem zX5_count : ∀ q ∈ kX5_count, Snd RX5 cX5_count 2 (some .int) (rmM mX5_count) q.1 q.2 :=
  fm (z_iload_n (j := 1) (by decide +kernel) rfl) (
  fm (z_tsw (dflt := 95) (lo := 0) (hi := 7) (offs := #[47, 54, 61, 67, 73, 78, 83, 90]) (len := 47) (by decide +kernel) (by decide) rfl (by decide) (by decide +kernel)) (
  fm (z_aload_n (j := 0) (by decide +kernel) rfl) (
  fm (z_getf (idx := 7) awX5 rfl (by decide) wd_4_12 rfl (by decide +kernel)) (
  fm (z_iconst (n := 0) (by decide +kernel) (by decide)) (
  fm (z_iald (by decide +kernel)) (
  fm (z_iret rfl (by decide +kernel)) (
  fm (z_aload_n (j := 0) (by decide +kernel) rfl) (
  fm (z_getf (idx := 7) awX5 rfl (by decide) wd_4_12 rfl (by decide +kernel)) (
  fm (z_iconst (n := 1) (by decide +kernel) (by decide)) (
  fm (z_iald (by decide +kernel)) (
  fm (z_iret rfl (by decide +kernel)) (
  fm (z_aload_n (j := 0) (by decide +kernel) rfl) (
  fm (z_iconst (n := 2) (by decide +kernel) (by decide)) (
  fm (z_inv (idx := 139) rfl (by decide +kernel) wd_4_212 wd_4_214 ws_46 wd_1_7 wd_4_215 (by decide +kernel) ⟨Nat.le_of_ble_eq_true rfl, Nat.le_of_ble_eq_true rfl⟩) (
  fm (z_iret rfl (by decide +kernel)) (
  fm (z_aload_n (j := 0) (by decide +kernel) rfl) (
  fm (z_iconst (n := 3) (by decide +kernel) (by decide)) (
  fm (z_inv (idx := 139) rfl (by decide +kernel) wd_4_212 wd_4_214 ws_46 wd_1_7 wd_4_215 (by decide +kernel) ⟨Nat.le_of_ble_eq_true rfl, Nat.le_of_ble_eq_true rfl⟩) (
  fm (z_iret rfl (by decide +kernel)) (
  fm (z_aload_n (j := 0) (by decide +kernel) rfl) (
  fm (z_inv (idx := 313) rfl (by decide +kernel) wd_6_21 wd_6_23 ws_72 wd_1_7 wd_6_24 (by decide +kernel) ⟨Nat.le_of_ble_eq_true rfl, Nat.le_of_ble_eq_true rfl⟩) (
  fm (z_iret rfl (by decide +kernel)) (
  fm (z_aload_n (j := 0) (by decide +kernel) rfl) (
  fm (z_getf (idx := 194) awX5 rfl (by decide) wd_4_20 rfl (by decide +kernel)) (
  fm (z_iret rfl (by decide +kernel)) (
  fm (z_aload_n (j := 0) (by decide +kernel) rfl) (
  fm (z_getf (idx := 7) awX5 rfl (by decide) wd_4_12 rfl (by decide +kernel)) (
  fm (z_iconst (n := 3) (by decide +kernel) (by decide)) (
  fm (z_iald (by decide +kernel)) (
  fm (z_iret rfl (by decide +kernel)) (
  fm (z_aload_n (j := 0) (by decide +kernel) rfl) (
  fm (z_inv (idx := 316) rfl (by decide +kernel) wd_6_25 wd_6_27 ws_73 wd_1_7 wd_6_28 (by decide +kernel) ⟨Nat.le_of_ble_eq_true rfl, Nat.le_of_ble_eq_true rfl⟩) (
  fm (z_iret rfl (by decide +kernel)) (
  fm (z_aload_n (j := 0) (by decide +kernel) rfl) (
  fm (z_ldc (i := 40) (by decide +kernel) wd_4_76) (
  fm (z_inv (idx := 58) rfl (by decide +kernel) wd_4_77 wd_4_79 ws_28 wd_1_7 wd_4_80 (by decide +kernel) ⟨Nat.le_of_ble_eq_true rfl, Nat.le_of_ble_eq_true rfl⟩) (
  fm (z_iret rfl (by decide +kernel)) (fn))))))))))))))))))))))))))))))))))))))
def kX5_dawn : Cd := [(0, s_aload 0 1), (1, s_iload 1 2), (2, s_inv mX5_isStall 5 1 5), (5, s_if (fun x => x = 0) 27 8), (8, s_iload 2 9), (9, s_invS mX5_isPlace 1 12), (12, s_if (fun x => x = 0) 27 15), (15, s_iload 3 16), (16, s_i2l 17), (17, s_pushl 0 18), (18, s_pushl 24 21), (21, s_invS mX5_in 3 24), (24, s_if (fun x => x = 0) 27 32), (27, s_pushi (-1000001) 29), (29, s_goto 37), (32, s_aload 0 33), (33, s_iload 3 34), (34, s_inv mX5_orderWrong 5 1 37), (37, s_istore 4 39), (39, s_iload 4 41), (41, s_if (fun x => x = 0) 51 44), (44, s_aload 0 45), (45, s_iload 4 47), (47, s_inv mX5_finds 5 1 50), (50, s_iret), (51, s_aload 0 52), (52, s_inv mX5_saves 5 0 55), (55, s_aload 0 56), (56, s_inv mX5_firstOrder 5 0 59), (59, s_pushi (-1) 60), (60, s_istore 5 62), (62, s_pushi 1 63), (63, s_istore 6 65), (65, s_iload 6 67), (67, s_if (fun x => x = 0) 125 70), (70, s_aload 0 71), (71, s_inv mX5_lays 5 0 74), (74, s_aload 0 75), (75, s_iload 3 76), (76, s_inv mX5_hoursGo 5 1 79), (79, s_istore 7 81), (81, s_aload 0 82), (82, s_iload 1 83), (83, s_pushi 1 84), (84, s_inv mX5_its 5 2 87), (87, s_iload 2 88), (88, s_icmp (fun x y => x = y) 91 100), (91, s_aload 0 92), (92, s_getf 5 5 95), (95, s_iload 1 96), (96, s_iald 97), (97, s_goto 101), (100, s_pushi (-1) 101), (101, s_istore 5 103), (103, s_iload 5 105), (105, s_if (fun x => 0 ≤ x) 119 108), (108, s_aload 0 109), (109, s_inv mX5_nextOrder 5 0 112), (112, s_if (fun x => x = 0) 119 115), (115, s_pushi 1 116), (116, s_goto 120), (119, s_pushi 0 120), (120, s_istore 6 122), (122, s_goto 65), (125, s_aload 0 126), (126, s_inv mX5_putsBack 5 0 129), (129, s_iload 5 131), (131, s_if (fun x => 0 ≤ x) 143 134), (134, s_aload 0 135), (135, s_pushi (-1000004) 137), (137, s_inv mX5_finds 5 1 140), (140, s_goto 145), (143, s_iload 5 145), (145, s_iret)]
set_option maxRecDepth 20000 in
theorem zX5_dawn : ∀ q ∈ kX5_dawn, Snd RX5 cX5_dawn 8 (some .int) (rmM mX5_dawn) q.1 q.2 :=
  fm (z_aload_n (j := 0) (by decide +kernel) rfl) (
  fm (z_iload_n (j := 1) (by decide +kernel) rfl) (
  fm (z_inv (idx := 76) rfl (by decide +kernel) wd_4_115 wd_4_117 ws_32 wd_1_7 wd_4_118 (by decide +kernel) ⟨Nat.le_of_ble_eq_true rfl, Nat.le_of_ble_eq_true rfl⟩) (
  fm (z_if_eq (off := 22) (by decide +kernel) (by decide)) (
  fm (z_iload_n (j := 2) (by decide +kernel) rfl) (
  fm (z_invS (idx := 52) (by decide +kernel) wd_4_68 wd_4_69 wd_1_7 wd_4_70 (by decide +kernel) ⟨Nat.le_of_ble_eq_true rfl, Nat.le_of_ble_eq_true rfl⟩) (
  fm (z_if_eq (off := 15) (by decide +kernel) (by decide)) (
  fm (z_iload_n (j := 3) (by decide +kernel) rfl) (
  fm (z_i2l (by decide +kernel)) (
  fm (z_lconst (n := 0) (by decide +kernel) (by decide)) (
  fm (z_ldc2 (i := 161) (by decide +kernel) wd_5_5) (
  fm (z_invS (idx := 43) (by decide +kernel) wd_4_72 wd_4_73 wd_1_7 wd_4_74 (by decide +kernel) ⟨Nat.le_of_ble_eq_true rfl, Nat.le_of_ble_eq_true rfl⟩) (
  fm (z_if_ne (off := 8) (by decide +kernel) (by decide)) (
  fm (z_ldc (i := 40) (by decide +kernel) wd_4_76) (
  fm (z_goto (off := 8) (by decide +kernel) (by decide)) (
  fm (z_aload_n (j := 0) (by decide +kernel) rfl) (
  fm (z_iload_n (j := 3) (by decide +kernel) rfl) (
  fm (z_inv (idx := 163) rfl (by decide +kernel) wd_5_6 wd_5_8 ws_48 wd_1_7 wd_5_9 (by decide +kernel) ⟨Nat.le_of_ble_eq_true rfl, Nat.le_of_ble_eq_true rfl⟩) (
  fm (z_istore (i := 4) (by decide +kernel) (by decide)) (
  fm (z_iload (i := 4) (by decide +kernel)) (
  fm (z_if_eq (off := 10) (by decide +kernel) (by decide)) (
  fm (z_aload_n (j := 0) (by decide +kernel) rfl) (
  fm (z_iload (i := 4) (by decide +kernel)) (
  fm (z_inv (idx := 58) rfl (by decide +kernel) wd_4_77 wd_4_79 ws_28 wd_1_7 wd_4_80 (by decide +kernel) ⟨Nat.le_of_ble_eq_true rfl, Nat.le_of_ble_eq_true rfl⟩) (
  fm (z_iret rfl (by decide +kernel)) (
  fm (z_aload_n (j := 0) (by decide +kernel) rfl) (
  fm (z_inv (idx := 130) rfl (by decide +kernel) wd_4_200 wd_4_202 ws_43 wd_1_7 wd_4_203 (by decide +kernel) ⟨Nat.le_of_ble_eq_true rfl, Nat.le_of_ble_eq_true rfl⟩) (
  fm (z_aload_n (j := 0) (by decide +kernel) rfl) (
  fm (z_inv (idx := 147) rfl (by decide +kernel) wd_5_15 wd_5_17 ws_50 wd_1_7 wd_5_18 (by decide +kernel) ⟨Nat.le_of_ble_eq_true rfl, Nat.le_of_ble_eq_true rfl⟩) (
  fm (z_iconst (n := (-1)) (by decide +kernel) (by decide)) (
  fm (z_istore (i := 5) (by decide +kernel) (by decide)) (
  fm (z_iconst (n := 1) (by decide +kernel) (by decide)) (
  fm (z_istore (i := 6) (by decide +kernel) (by decide)) (
  fm (z_iload (i := 6) (by decide +kernel)) (
  fm (z_if_eq (off := 58) (by decide +kernel) (by decide)) (
  fm (z_aload_n (j := 0) (by decide +kernel) rfl) (
  fm (z_inv (idx := 150) rfl (by decide +kernel) wd_5_19 wd_5_21 ws_51 wd_1_7 wd_5_22 (by decide +kernel) ⟨Nat.le_of_ble_eq_true rfl, Nat.le_of_ble_eq_true rfl⟩) (
  fm (z_aload_n (j := 0) (by decide +kernel) rfl) (
  fm (z_iload_n (j := 3) (by decide +kernel) rfl) (
  fm (z_inv (idx := 122) rfl (by decide +kernel) wd_4_162 wd_4_164 ws_38 wd_1_7 wd_4_165 (by decide +kernel) ⟨Nat.le_of_ble_eq_true rfl, Nat.le_of_ble_eq_true rfl⟩) (
  fm (z_istore (i := 7) (by decide +kernel) (by decide)) (
  fm (z_aload_n (j := 0) (by decide +kernel) rfl) (
  fm (z_iload_n (j := 1) (by decide +kernel) rfl) (
  fm (z_iconst (n := 1) (by decide +kernel) (by decide)) (
  fm (z_inv (idx := 62) rfl (by decide +kernel) wd_4_98 wd_4_100 ws_30 wd_1_7 wd_4_101 (by decide +kernel) ⟨Nat.le_of_ble_eq_true rfl, Nat.le_of_ble_eq_true rfl⟩) (
  fm (z_iload_n (j := 2) (by decide +kernel) rfl) (
  fm (z_icmp_ne (off := 12) (by decide +kernel) (by decide)) (
  fm (z_aload_n (j := 0) (by decide +kernel) rfl) (
  fm (z_getf (idx := 22) awX5 rfl (by decide) wd_4_17 rfl (by decide +kernel)) (
  fm (z_iload_n (j := 1) (by decide +kernel) rfl) (
  fm (z_iald (by decide +kernel)) (
  fm (z_goto (off := 4) (by decide +kernel) (by decide)) (
  fm (z_iconst (n := (-1)) (by decide +kernel) (by decide)) (
  fm (z_istore (i := 5) (by decide +kernel) (by decide)) (
  fm (z_iload (i := 5) (by decide +kernel)) (
  fm (z_if_ge (off := 14) (by decide +kernel) (by decide)) (
  fm (z_aload_n (j := 0) (by decide +kernel) rfl) (
  fm (z_inv (idx := 157) rfl (by decide +kernel) wd_5_23 wd_5_25 ws_52 wd_1_7 wd_5_26 (by decide +kernel) ⟨Nat.le_of_ble_eq_true rfl, Nat.le_of_ble_eq_true rfl⟩) (
  fm (z_if_eq (off := 7) (by decide +kernel) (by decide)) (
  fm (z_iconst (n := 1) (by decide +kernel) (by decide)) (
  fm (z_goto (off := 4) (by decide +kernel) (by decide)) (
  fm (z_iconst (n := 0) (by decide +kernel) (by decide)) (
  fm (z_istore (i := 6) (by decide +kernel) (by decide)) (
  fm (z_goto (off := (-57)) (by decide +kernel) (by decide)) (
  fm (z_aload_n (j := 0) (by decide +kernel) rfl) (
  fm (z_inv (idx := 142) rfl (by decide +kernel) wd_4_216 wd_4_218 ws_47 wd_1_7 wd_4_219 (by decide +kernel) ⟨Nat.le_of_ble_eq_true rfl, Nat.le_of_ble_eq_true rfl⟩) (
  fm (z_iload (i := 5) (by decide +kernel)) (
  fm (z_if_ge (off := 12) (by decide +kernel) (by decide)) (
  fm (z_aload_n (j := 0) (by decide +kernel) rfl) (
  fm (z_ldc (i := 145) (by decide +kernel) wd_4_224) (
  fm (z_inv (idx := 58) rfl (by decide +kernel) wd_4_77 wd_4_79 ws_28 wd_1_7 wd_4_80 (by decide +kernel) ⟨Nat.le_of_ble_eq_true rfl, Nat.le_of_ble_eq_true rfl⟩) (
  fm (z_goto (off := 5) (by decide +kernel) (by decide)) (
  fm (z_iload (i := 5) (by decide +kernel)) (
  fm (z_iret rfl (by decide +kernel)) (fn))))))))))))))))))))))))))))))))))))))))))))))))))))))))))))))))))))))))))
def kX5_deal : Cd := [(0, s_iload 1 1), (1, s_invS mX5_isDays 1 4), (4, s_if (fun x => x = 0) 7 14), (7, s_aload 0 8), (8, s_pushi (-1000001) 10), (10, s_inv mX5_finds 5 1 13), (13, s_iret), (14, s_aload 0 15), (15, s_iload 1 16), (16, s_inv mX5_isTooLate 5 1 19), (19, s_if (fun x => x = 0) 29 22), (22, s_aload 0 23), (23, s_pushi (-1000005) 25), (25, s_inv mX5_finds 5 1 28), (28, s_iret), (29, s_aload 0 30), (30, s_inv mX5_saves 5 0 33), (33, s_pushi (-1) 34), (34, s_istore 2 35), (35, s_pushi 0 36), (36, s_istore 3 37), (37, s_iload 3 38), (38, s_aload 0 39), (39, s_getf 5 0 42), (42, s_pushi 1 43), (43, s_iald 44), (44, s_icmp (fun x y => y ≤ x) 173 47), (47, s_iload 2 48), (48, s_if (fun x => 0 ≤ x) 173 51), (51, s_iload 3 52), (52, s_pushi 1 53), (53, s_bin (fun x y => x + y) 54), (54, s_istore 4 56), (56, s_iload 4 58), (58, s_aload 0 59), (59, s_getf 5 0 62), (62, s_pushi 1 63), (63, s_iald 64), (64, s_icmp (fun x y => y ≤ x) 167 67), (67, s_iload 2 68), (68, s_if (fun x => 0 ≤ x) 167 71), (71, s_aload 0 72), (72, s_iload 3 73), (73, s_iload 1 74), (74, s_inv mX5_coinOf 5 2 77), (77, s_istore 5 79), (79, s_aload 0 80), (80, s_iload 4 82), (82, s_iload 1 83), (83, s_inv mX5_coinOf 5 2 86), (86, s_istore 6 88), (88, s_aload 0 89), (89, s_iload 3 90), (90, s_iload 4 92), (92, s_inv mX5_swaps 5 2 95), (95, s_aload 0 96), (96, s_iload 3 97), (97, s_iload 1 98), (98, s_inv mX5_coinOf 5 2 101), (101, s_iload 5 103), (103, s_icmp (fun x y => x ≤ y) 110 106), (106, s_pushi 1 107), (107, s_goto 111), (110, s_pushi 0 111), (111, s_istore 7 113), (113, s_aload 0 114), (114, s_iload 3 115), (115, s_iload 4 117), (117, s_inv mX5_swaps 5 2 120), (120, s_aload 0 121), (121, s_iload 4 123), (123, s_iload 1 124), (124, s_inv mX5_coinOf 5 2 127), (127, s_iload 6 129), (129, s_icmp (fun x y => x ≤ y) 141 132), (132, s_iload 7 134), (134, s_if (fun x => x = 0) 141 137), (137, s_pushi 1 138), (138, s_goto 142), (141, s_pushi 0 142), (142, s_istore 7 144), (144, s_iload 7 146), (146, s_if (fun x => x = 0) 159 149), (149, s_pushi 10 151), (151, s_iload 3 152), (152, s_bin (fun x y => x * y) 153), (153, s_iload 4 155), (155, s_bin (fun x y => x + y) 156), (156, s_goto 160), (159, s_pushi (-1) 160), (160, s_istore 2 161), (161, s_iinc 4 1 164), (164, s_goto 56), (167, s_iinc 3 1 170), (170, s_goto 37), (173, s_iload 2 174), (174, s_if (fun x => 0 ≤ x) 186 177), (177, s_aload 0 178), (178, s_pushi (-1000004) 180), (180, s_inv mX5_finds 5 1 183), (183, s_goto 187), (186, s_iload 2 187), (187, s_iret)]
set_option maxRecDepth 20000 in
theorem zX5_deal : ∀ q ∈ kX5_deal, Snd RX5 cX5_deal 8 (some .int) (rmM mX5_deal) q.1 q.2 :=
  fm (z_iload_n (j := 1) (by decide +kernel) rfl) (
  fm (z_invS (idx := 169) (by decide +kernel) wd_5_39 wd_5_40 wd_1_7 wd_5_41 (by decide +kernel) ⟨Nat.le_of_ble_eq_true rfl, Nat.le_of_ble_eq_true rfl⟩) (
  fm (z_if_ne (off := 10) (by decide +kernel) (by decide)) (
  fm (z_aload_n (j := 0) (by decide +kernel) rfl) (
  fm (z_ldc (i := 40) (by decide +kernel) wd_4_76) (
  fm (z_inv (idx := 58) rfl (by decide +kernel) wd_4_77 wd_4_79 ws_28 wd_1_7 wd_4_80 (by decide +kernel) ⟨Nat.le_of_ble_eq_true rfl, Nat.le_of_ble_eq_true rfl⟩) (
  fm (z_iret rfl (by decide +kernel)) (
  fm (z_aload_n (j := 0) (by decide +kernel) rfl) (
  fm (z_iload_n (j := 1) (by decide +kernel) rfl) (
  fm (z_inv (idx := 119) rfl (by decide +kernel) wd_4_158 wd_4_160 ws_37 wd_1_7 wd_4_161 (by decide +kernel) ⟨Nat.le_of_ble_eq_true rfl, Nat.le_of_ble_eq_true rfl⟩) (
  fm (z_if_eq (off := 10) (by decide +kernel) (by decide)) (
  fm (z_aload_n (j := 0) (by decide +kernel) rfl) (
  fm (z_ldc (i := 70) (by decide +kernel) wd_4_105) (
  fm (z_inv (idx := 58) rfl (by decide +kernel) wd_4_77 wd_4_79 ws_28 wd_1_7 wd_4_80 (by decide +kernel) ⟨Nat.le_of_ble_eq_true rfl, Nat.le_of_ble_eq_true rfl⟩) (
  fm (z_iret rfl (by decide +kernel)) (
  fm (z_aload_n (j := 0) (by decide +kernel) rfl) (
  fm (z_inv (idx := 130) rfl (by decide +kernel) wd_4_200 wd_4_202 ws_43 wd_1_7 wd_4_203 (by decide +kernel) ⟨Nat.le_of_ble_eq_true rfl, Nat.le_of_ble_eq_true rfl⟩) (
  fm (z_iconst (n := (-1)) (by decide +kernel) (by decide)) (
  fm (z_istore_n (j := 2) (by decide +kernel) rfl (by decide)) (
  fm (z_iconst (n := 0) (by decide +kernel) (by decide)) (
  fm (z_istore_n (j := 3) (by decide +kernel) rfl (by decide)) (
  fm (z_iload_n (j := 3) (by decide +kernel) rfl) (
  fm (z_aload_n (j := 0) (by decide +kernel) rfl) (
  fm (z_getf (idx := 7) awX5 rfl (by decide) wd_4_12 rfl (by decide +kernel)) (
  fm (z_iconst (n := 1) (by decide +kernel) (by decide)) (
  fm (z_iald (by decide +kernel)) (
  fm (z_icmp_ge (off := 129) (by decide +kernel) (by decide)) (
  fm (z_iload_n (j := 2) (by decide +kernel) rfl) (
  fm (z_if_ge (off := 125) (by decide +kernel) (by decide)) (
  fm (z_iload_n (j := 3) (by decide +kernel) rfl) (
  fm (z_iconst (n := 1) (by decide +kernel) (by decide)) (
  fm (z_iadd (by decide +kernel)) (
  fm (z_istore (i := 4) (by decide +kernel) (by decide)) (
  fm (z_iload (i := 4) (by decide +kernel)) (
  fm (z_aload_n (j := 0) (by decide +kernel) rfl) (
  fm (z_getf (idx := 7) awX5 rfl (by decide) wd_4_12 rfl (by decide +kernel)) (
  fm (z_iconst (n := 1) (by decide +kernel) (by decide)) (
  fm (z_iald (by decide +kernel)) (
  fm (z_icmp_ge (off := 103) (by decide +kernel) (by decide)) (
  fm (z_iload_n (j := 2) (by decide +kernel) rfl) (
  fm (z_if_ge (off := 99) (by decide +kernel) (by decide)) (
  fm (z_aload_n (j := 0) (by decide +kernel) rfl) (
  fm (z_iload_n (j := 3) (by decide +kernel) rfl) (
  fm (z_iload_n (j := 1) (by decide +kernel) rfl) (
  fm (z_inv (idx := 172) rfl (by decide +kernel) wd_5_42 wd_5_44 ws_53 wd_1_7 wd_5_45 (by decide +kernel) ⟨Nat.le_of_ble_eq_true rfl, Nat.le_of_ble_eq_true rfl⟩) (
  fm (z_istore (i := 5) (by decide +kernel) (by decide)) (
  fm (z_aload_n (j := 0) (by decide +kernel) rfl) (
  fm (z_iload (i := 4) (by decide +kernel)) (
  fm (z_iload_n (j := 1) (by decide +kernel) rfl) (
  fm (z_inv (idx := 172) rfl (by decide +kernel) wd_5_42 wd_5_44 ws_53 wd_1_7 wd_5_45 (by decide +kernel) ⟨Nat.le_of_ble_eq_true rfl, Nat.le_of_ble_eq_true rfl⟩) (
  fm (z_istore (i := 6) (by decide +kernel) (by decide)) (
  fm (z_aload_n (j := 0) (by decide +kernel) rfl) (
  fm (z_iload_n (j := 3) (by decide +kernel) rfl) (
  fm (z_iload (i := 4) (by decide +kernel)) (
  fm (z_inv (idx := 87) rfl (by decide +kernel) wd_4_136 wd_4_138 ws_35 wd_1_7 wd_4_139 (by decide +kernel) ⟨Nat.le_of_ble_eq_true rfl, Nat.le_of_ble_eq_true rfl⟩) (
  fm (z_aload_n (j := 0) (by decide +kernel) rfl) (
  fm (z_iload_n (j := 3) (by decide +kernel) rfl) (
  fm (z_iload_n (j := 1) (by decide +kernel) rfl) (
  fm (z_inv (idx := 172) rfl (by decide +kernel) wd_5_42 wd_5_44 ws_53 wd_1_7 wd_5_45 (by decide +kernel) ⟨Nat.le_of_ble_eq_true rfl, Nat.le_of_ble_eq_true rfl⟩) (
  fm (z_iload (i := 5) (by decide +kernel)) (
  fm (z_icmp_le (off := 7) (by decide +kernel) (by decide)) (
  fm (z_iconst (n := 1) (by decide +kernel) (by decide)) (
  fm (z_goto (off := 4) (by decide +kernel) (by decide)) (
  fm (z_iconst (n := 0) (by decide +kernel) (by decide)) (
  fm (z_istore (i := 7) (by decide +kernel) (by decide)) (
  fm (z_aload_n (j := 0) (by decide +kernel) rfl) (
  fm (z_iload_n (j := 3) (by decide +kernel) rfl) (
  fm (z_iload (i := 4) (by decide +kernel)) (
  fm (z_inv (idx := 87) rfl (by decide +kernel) wd_4_136 wd_4_138 ws_35 wd_1_7 wd_4_139 (by decide +kernel) ⟨Nat.le_of_ble_eq_true rfl, Nat.le_of_ble_eq_true rfl⟩) (
  fm (z_aload_n (j := 0) (by decide +kernel) rfl) (
  fm (z_iload (i := 4) (by decide +kernel)) (
  fm (z_iload_n (j := 1) (by decide +kernel) rfl) (
  fm (z_inv (idx := 172) rfl (by decide +kernel) wd_5_42 wd_5_44 ws_53 wd_1_7 wd_5_45 (by decide +kernel) ⟨Nat.le_of_ble_eq_true rfl, Nat.le_of_ble_eq_true rfl⟩) (
  fm (z_iload (i := 6) (by decide +kernel)) (
  fm (z_icmp_le (off := 12) (by decide +kernel) (by decide)) (
  fm (z_iload (i := 7) (by decide +kernel)) (
  fm (z_if_eq (off := 7) (by decide +kernel) (by decide)) (
  fm (z_iconst (n := 1) (by decide +kernel) (by decide)) (
  fm (z_goto (off := 4) (by decide +kernel) (by decide)) (
  fm (z_iconst (n := 0) (by decide +kernel) (by decide)) (
  fm (z_istore (i := 7) (by decide +kernel) (by decide)) (
  fm (z_iload (i := 7) (by decide +kernel)) (
  fm (z_if_eq (off := 13) (by decide +kernel) (by decide)) (
  fm (z_bipush (n := 10) (by decide +kernel) (by decide)) (
  fm (z_iload_n (j := 3) (by decide +kernel) rfl) (
  fm (z_imul (by decide +kernel)) (
  fm (z_iload (i := 4) (by decide +kernel)) (
  fm (z_iadd (by decide +kernel)) (
  fm (z_goto (off := 4) (by decide +kernel) (by decide)) (
  fm (z_iconst (n := (-1)) (by decide +kernel) (by decide)) (
  fm (z_istore_n (j := 2) (by decide +kernel) rfl (by decide)) (
  fm (z_iinc (n := 1) (by decide +kernel) (by decide) (by decide)) (
  fm (z_goto (off := (-108)) (by decide +kernel) (by decide)) (
  fm (z_iinc (n := 1) (by decide +kernel) (by decide) (by decide)) (
  fm (z_goto (off := (-133)) (by decide +kernel) (by decide)) (
  fm (z_iload_n (j := 2) (by decide +kernel) rfl) (
  fm (z_if_ge (off := 12) (by decide +kernel) (by decide)) (
  fm (z_aload_n (j := 0) (by decide +kernel) rfl) (
  fm (z_ldc (i := 145) (by decide +kernel) wd_4_224) (
  fm (z_inv (idx := 58) rfl (by decide +kernel) wd_4_77 wd_4_79 ws_28 wd_1_7 wd_4_80 (by decide +kernel) ⟨Nat.le_of_ble_eq_true rfl, Nat.le_of_ble_eq_true rfl⟩) (
  fm (z_goto (off := 4) (by decide +kernel) (by decide)) (
  fm (z_iload_n (j := 2) (by decide +kernel) rfl) (
  fm (z_iret rfl (by decide +kernel)) (fn)))))))))))))))))))))))))))))))))))))))))))))))))))))))))))))))))))))))))))))))))))))))))))))))))))))))
def kX5_draw : Cd := [(0, s_aload 0 1), (1, s_getf 5 0 4), (4, s_pushi 3 5), (5, s_aload 0 6), (6, s_getf 5 0 9), (9, s_pushi 3 10), (10, s_iald 11), (11, s_pushi 1103515245 13), (13, s_bin (fun x y => x * y) 14), (14, s_pushi 12345 17), (17, s_bin (fun x y => x + y) 18), (18, s_iast 19), (19, s_aload 0 20), (20, s_getf 5 0 23), (23, s_pushi 3 24), (24, s_iald 25), (25, s_pushi 8 27), (27, s_bin (fun x y => (x.toUInt32 >>> (y.toUInt32 &&& Int32.toUInt32 31)).toInt32) 28), (28, s_iret)]
set_option maxRecDepth 20000 in
theorem zX5_draw : ∀ q ∈ kX5_draw, Snd RX5 cX5_draw 1 (some .int) (rmM mX5_draw) q.1 q.2 :=
  fm (z_aload_n (j := 0) (by decide +kernel) rfl) (
  fm (z_getf (idx := 7) awX5 rfl (by decide) wd_4_12 rfl (by decide +kernel)) (
  fm (z_iconst (n := 3) (by decide +kernel) (by decide)) (
  fm (z_aload_n (j := 0) (by decide +kernel) rfl) (
  fm (z_getf (idx := 7) awX5 rfl (by decide) wd_4_12 rfl (by decide +kernel)) (
  fm (z_iconst (n := 3) (by decide +kernel) (by decide)) (
  fm (z_iald (by decide +kernel)) (
  fm (z_ldc (i := 47) (by decide +kernel) wd_5_107) (
  fm (z_imul (by decide +kernel)) (
  fm (z_sipush (n := 12345) (by decide +kernel) (by decide)) (
  fm (z_iadd (by decide +kernel)) (
  fm (z_iast (by decide +kernel)) (
  fm (z_aload_n (j := 0) (by decide +kernel) rfl) (
  fm (z_getf (idx := 7) awX5 rfl (by decide) wd_4_12 rfl (by decide +kernel)) (
  fm (z_iconst (n := 3) (by decide +kernel) (by decide)) (
  fm (z_iald (by decide +kernel)) (
  fm (z_bipush (n := 8) (by decide +kernel) (by decide)) (
  fm (z_iushr (by decide +kernel)) (
  fm (z_iret rfl (by decide +kernel)) (fn)))))))))))))))))))
def kX5_empty : Cd := [(0, s_aload 0 1), (1, s_iload 1 2), (2, s_inv mX5_isStall 5 1 5), (5, s_if (fun x => x = 0) 8 15), (8, s_aload 0 9), (9, s_pushi (-1000001) 11), (11, s_inv mX5_finds 5 1 14), (14, s_iret), (15, s_aload 0 16), (16, s_pushi 96 18), (18, s_inv mX5_isTooLate 5 1 21), (21, s_if (fun x => x = 0) 31 24), (24, s_aload 0 25), (25, s_pushi (-1000005) 27), (27, s_inv mX5_finds 5 1 30), (30, s_iret), (31, s_aload 0 32), (32, s_inv mX5_saves 5 0 35), (35, s_pushi 0 36), (36, s_istore 2 37), (37, s_iload 2 38), (38, s_pushi 97 40), (40, s_icmp (fun x y => y ≤ x) 63 43), (43, s_aload 0 44), (44, s_iload 1 45), (45, s_pushi 2 46), (46, s_inv mX5_its 5 2 49), (49, s_if (fun x => x ≤ 0) 63 52), (52, s_aload 0 53), (53, s_inv mX5_hour 5 0 56), (56, s_istore 3 57), (57, s_iinc 2 1 60), (60, s_goto 37), (63, s_aload 0 64), (64, s_inv mX5_putsBack 5 0 67), (67, s_iload 2 68), (68, s_pushi 96 70), (70, s_icmp (fun x y => x ≤ y) 82 73), (73, s_aload 0 74), (74, s_pushi (-1000004) 76), (76, s_inv mX5_finds 5 1 79), (79, s_goto 83), (82, s_iload 2 83), (83, s_iret)]
set_option maxRecDepth 20000 in
theorem zX5_empty : ∀ q ∈ kX5_empty, Snd RX5 cX5_empty 4 (some .int) (rmM mX5_empty) q.1 q.2 :=
  fm (z_aload_n (j := 0) (by decide +kernel) rfl) (
  fm (z_iload_n (j := 1) (by decide +kernel) rfl) (
  fm (z_inv (idx := 76) rfl (by decide +kernel) wd_4_115 wd_4_117 ws_32 wd_1_7 wd_4_118 (by decide +kernel) ⟨Nat.le_of_ble_eq_true rfl, Nat.le_of_ble_eq_true rfl⟩) (
  fm (z_if_ne (off := 10) (by decide +kernel) (by decide)) (
  fm (z_aload_n (j := 0) (by decide +kernel) rfl) (
  fm (z_ldc (i := 40) (by decide +kernel) wd_4_76) (
  fm (z_inv (idx := 58) rfl (by decide +kernel) wd_4_77 wd_4_79 ws_28 wd_1_7 wd_4_80 (by decide +kernel) ⟨Nat.le_of_ble_eq_true rfl, Nat.le_of_ble_eq_true rfl⟩) (
  fm (z_iret rfl (by decide +kernel)) (
  fm (z_aload_n (j := 0) (by decide +kernel) rfl) (
  fm (z_bipush (n := 96) (by decide +kernel) (by decide)) (
  fm (z_inv (idx := 119) rfl (by decide +kernel) wd_4_158 wd_4_160 ws_37 wd_1_7 wd_4_161 (by decide +kernel) ⟨Nat.le_of_ble_eq_true rfl, Nat.le_of_ble_eq_true rfl⟩) (
  fm (z_if_eq (off := 10) (by decide +kernel) (by decide)) (
  fm (z_aload_n (j := 0) (by decide +kernel) rfl) (
  fm (z_ldc (i := 70) (by decide +kernel) wd_4_105) (
  fm (z_inv (idx := 58) rfl (by decide +kernel) wd_4_77 wd_4_79 ws_28 wd_1_7 wd_4_80 (by decide +kernel) ⟨Nat.le_of_ble_eq_true rfl, Nat.le_of_ble_eq_true rfl⟩) (
  fm (z_iret rfl (by decide +kernel)) (
  fm (z_aload_n (j := 0) (by decide +kernel) rfl) (
  fm (z_inv (idx := 130) rfl (by decide +kernel) wd_4_200 wd_4_202 ws_43 wd_1_7 wd_4_203 (by decide +kernel) ⟨Nat.le_of_ble_eq_true rfl, Nat.le_of_ble_eq_true rfl⟩) (
  fm (z_iconst (n := 0) (by decide +kernel) (by decide)) (
  fm (z_istore_n (j := 2) (by decide +kernel) rfl (by decide)) (
  fm (z_iload_n (j := 2) (by decide +kernel) rfl) (
  fm (z_bipush (n := 97) (by decide +kernel) (by decide)) (
  fm (z_icmp_ge (off := 23) (by decide +kernel) (by decide)) (
  fm (z_aload_n (j := 0) (by decide +kernel) rfl) (
  fm (z_iload_n (j := 1) (by decide +kernel) rfl) (
  fm (z_iconst (n := 2) (by decide +kernel) (by decide)) (
  fm (z_inv (idx := 62) rfl (by decide +kernel) wd_4_98 wd_4_100 ws_30 wd_1_7 wd_4_101 (by decide +kernel) ⟨Nat.le_of_ble_eq_true rfl, Nat.le_of_ble_eq_true rfl⟩) (
  fm (z_if_le (off := 14) (by decide +kernel) (by decide)) (
  fm (z_aload_n (j := 0) (by decide +kernel) rfl) (
  fm (z_inv (idx := 113) rfl (by decide +kernel) wd_4_166 wd_4_168 ws_39 wd_1_7 wd_4_169 (by decide +kernel) ⟨Nat.le_of_ble_eq_true rfl, Nat.le_of_ble_eq_true rfl⟩) (
  fm (z_istore_n (j := 3) (by decide +kernel) rfl (by decide)) (
  fm (z_iinc (n := 1) (by decide +kernel) (by decide) (by decide)) (
  fm (z_goto (off := (-23)) (by decide +kernel) (by decide)) (
  fm (z_aload_n (j := 0) (by decide +kernel) rfl) (
  fm (z_inv (idx := 142) rfl (by decide +kernel) wd_4_216 wd_4_218 ws_47 wd_1_7 wd_4_219 (by decide +kernel) ⟨Nat.le_of_ble_eq_true rfl, Nat.le_of_ble_eq_true rfl⟩) (
  fm (z_iload_n (j := 2) (by decide +kernel) rfl) (
  fm (z_bipush (n := 96) (by decide +kernel) (by decide)) (
  fm (z_icmp_le (off := 12) (by decide +kernel) (by decide)) (
  fm (z_aload_n (j := 0) (by decide +kernel) rfl) (
  fm (z_ldc (i := 145) (by decide +kernel) wd_4_224) (
  fm (z_inv (idx := 58) rfl (by decide +kernel) wd_4_77 wd_4_79 ws_28 wd_1_7 wd_4_80 (by decide +kernel) ⟨Nat.le_of_ble_eq_true rfl, Nat.le_of_ble_eq_true rfl⟩) (
  fm (z_goto (off := 4) (by decide +kernel) (by decide)) (
  fm (z_iload_n (j := 2) (by decide +kernel) rfl) (
  fm (z_iret rfl (by decide +kernel)) (fn))))))))))))))))))))))))))))))))))))))))))))
def kX5_emptySet : Cd := [(0, s_pushi 0 1), (1, s_istore 1 2), (2, s_pushi 0 3), (3, s_istore 2 4), (4, s_iload 2 5), (5, s_aload 0 6), (6, s_getf 5 0 9), (9, s_pushi 1 10), (10, s_iald 11), (11, s_icmp (fun x y => y ≤ x) 39 14), (14, s_iload 1 15), (15, s_aload 0 16), (16, s_iload 2 17), (17, s_pushi 2 18), (18, s_inv mX5_its 5 2 21), (21, s_if (fun x => x = 0) 24 30), (24, s_pushi 1 25), (25, s_iload 2 26), (26, s_bin (fun x y => x <<< (y &&& 31)) 27), (27, s_goto 31), (30, s_pushi 0 31), (31, s_bin (fun x y => x ||| y) 32), (32, s_istore 1 33), (33, s_iinc 2 1 36), (36, s_goto 4), (39, s_iload 1 40), (40, s_iret)]
set_option maxRecDepth 20000 in
theorem zX5_emptySet : ∀ q ∈ kX5_emptySet, Snd RX5 cX5_emptySet 3 (some .int) (rmM mX5_emptySet) q.1 q.2 :=
  fm (z_iconst (n := 0) (by decide +kernel) (by decide)) (
  fm (z_istore_n (j := 1) (by decide +kernel) rfl (by decide)) (
  fm (z_iconst (n := 0) (by decide +kernel) (by decide)) (
  fm (z_istore_n (j := 2) (by decide +kernel) rfl (by decide)) (
  fm (z_iload_n (j := 2) (by decide +kernel) rfl) (
  fm (z_aload_n (j := 0) (by decide +kernel) rfl) (
  fm (z_getf (idx := 7) awX5 rfl (by decide) wd_4_12 rfl (by decide +kernel)) (
  fm (z_iconst (n := 1) (by decide +kernel) (by decide)) (
  fm (z_iald (by decide +kernel)) (
  fm (z_icmp_ge (off := 28) (by decide +kernel) (by decide)) (
  fm (z_iload_n (j := 1) (by decide +kernel) rfl) (
  fm (z_aload_n (j := 0) (by decide +kernel) rfl) (
  fm (z_iload_n (j := 2) (by decide +kernel) rfl) (
  fm (z_iconst (n := 2) (by decide +kernel) (by decide)) (
  fm (z_inv (idx := 62) rfl (by decide +kernel) wd_4_98 wd_4_100 ws_30 wd_1_7 wd_4_101 (by decide +kernel) ⟨Nat.le_of_ble_eq_true rfl, Nat.le_of_ble_eq_true rfl⟩) (
  fm (z_if_ne (off := 9) (by decide +kernel) (by decide)) (
  fm (z_iconst (n := 1) (by decide +kernel) (by decide)) (
  fm (z_iload_n (j := 2) (by decide +kernel) rfl) (
  fm (z_ishl (by decide +kernel)) (
  fm (z_goto (off := 4) (by decide +kernel) (by decide)) (
  fm (z_iconst (n := 0) (by decide +kernel) (by decide)) (
  fm (z_ior (by decide +kernel)) (
  fm (z_istore_n (j := 1) (by decide +kernel) rfl (by decide)) (
  fm (z_iinc (n := 1) (by decide +kernel) (by decide) (by decide)) (
  fm (z_goto (off := (-32)) (by decide +kernel) (by decide)) (
  fm (z_iload_n (j := 1) (by decide +kernel) rfl) (
  fm (z_iret rfl (by decide +kernel)) (fn)))))))))))))))))))))))))))
def kX5_ever : Cd := [(0, s_aload 0 1), (1, s_iload 1 2), (2, s_inv mX5_isStall 5 1 5), (5, s_if (fun x => x = 0) 15 8), (8, s_iload 2 9), (9, s_invS mX5_isSpan 1 12), (12, s_if (fun x => x = 0) 15 22), (15, s_aload 0 16), (16, s_pushi (-1000001) 18), (18, s_inv mX5_finds 5 1 21), (21, s_iret), (22, s_aload 0 23), (23, s_iload 2 24), (24, s_inv mX5_isTooLate 5 1 27), (27, s_if (fun x => x = 0) 37 30), (30, s_aload 0 31), (31, s_pushi (-1000005) 33), (33, s_inv mX5_finds 5 1 36), (36, s_iret), (37, s_aload 0 38), (38, s_inv mX5_saves 5 0 41), (41, s_aload 0 42), (42, s_iload 1 43), (43, s_inv mX5_besideSet 5 1 46), (46, s_istore 3 47), (47, s_pushi 0 48), (48, s_istore 4 50), (50, s_iload 4 52), (52, s_iload 2 53), (53, s_icmp (fun x y => y ≤ x) 76 56), (56, s_aload 0 57), (57, s_inv mX5_hour 5 0 60), (60, s_istore 5 62), (62, s_iload 3 63), (63, s_aload 0 64), (64, s_iload 1 65), (65, s_inv mX5_besideSet 5 1 68), (68, s_bin (fun x y => x ||| y) 69), (69, s_istore 3 70), (70, s_iinc 4 1 73), (73, s_goto 50), (76, s_aload 0 77), (77, s_inv mX5_putsBack 5 0 80), (80, s_iload 3 81), (81, s_iret)]
set_option maxRecDepth 20000 in
theorem zX5_ever : ∀ q ∈ kX5_ever, Snd RX5 cX5_ever 6 (some .int) (rmM mX5_ever) q.1 q.2 :=
  fm (z_aload_n (j := 0) (by decide +kernel) rfl) (
  fm (z_iload_n (j := 1) (by decide +kernel) rfl) (
  fm (z_inv (idx := 76) rfl (by decide +kernel) wd_4_115 wd_4_117 ws_32 wd_1_7 wd_4_118 (by decide +kernel) ⟨Nat.le_of_ble_eq_true rfl, Nat.le_of_ble_eq_true rfl⟩) (
  fm (z_if_eq (off := 10) (by decide +kernel) (by decide)) (
  fm (z_iload_n (j := 2) (by decide +kernel) rfl) (
  fm (z_invS (idx := 127) (by decide +kernel) wd_4_196 wd_4_197 wd_1_7 wd_4_198 (by decide +kernel) ⟨Nat.le_of_ble_eq_true rfl, Nat.le_of_ble_eq_true rfl⟩) (
  fm (z_if_ne (off := 10) (by decide +kernel) (by decide)) (
  fm (z_aload_n (j := 0) (by decide +kernel) rfl) (
  fm (z_ldc (i := 40) (by decide +kernel) wd_4_76) (
  fm (z_inv (idx := 58) rfl (by decide +kernel) wd_4_77 wd_4_79 ws_28 wd_1_7 wd_4_80 (by decide +kernel) ⟨Nat.le_of_ble_eq_true rfl, Nat.le_of_ble_eq_true rfl⟩) (
  fm (z_iret rfl (by decide +kernel)) (
  fm (z_aload_n (j := 0) (by decide +kernel) rfl) (
  fm (z_iload_n (j := 2) (by decide +kernel) rfl) (
  fm (z_inv (idx := 119) rfl (by decide +kernel) wd_4_158 wd_4_160 ws_37 wd_1_7 wd_4_161 (by decide +kernel) ⟨Nat.le_of_ble_eq_true rfl, Nat.le_of_ble_eq_true rfl⟩) (
  fm (z_if_eq (off := 10) (by decide +kernel) (by decide)) (
  fm (z_aload_n (j := 0) (by decide +kernel) rfl) (
  fm (z_ldc (i := 70) (by decide +kernel) wd_4_105) (
  fm (z_inv (idx := 58) rfl (by decide +kernel) wd_4_77 wd_4_79 ws_28 wd_1_7 wd_4_80 (by decide +kernel) ⟨Nat.le_of_ble_eq_true rfl, Nat.le_of_ble_eq_true rfl⟩) (
  fm (z_iret rfl (by decide +kernel)) (
  fm (z_aload_n (j := 0) (by decide +kernel) rfl) (
  fm (z_inv (idx := 130) rfl (by decide +kernel) wd_4_200 wd_4_202 ws_43 wd_1_7 wd_4_203 (by decide +kernel) ⟨Nat.le_of_ble_eq_true rfl, Nat.le_of_ble_eq_true rfl⟩) (
  fm (z_aload_n (j := 0) (by decide +kernel) rfl) (
  fm (z_iload_n (j := 1) (by decide +kernel) rfl) (
  fm (z_inv (idx := 178) rfl (by decide +kernel) wd_5_58 wd_5_60 ws_54 wd_1_7 wd_5_61 (by decide +kernel) ⟨Nat.le_of_ble_eq_true rfl, Nat.le_of_ble_eq_true rfl⟩) (
  fm (z_istore_n (j := 3) (by decide +kernel) rfl (by decide)) (
  fm (z_iconst (n := 0) (by decide +kernel) (by decide)) (
  fm (z_istore (i := 4) (by decide +kernel) (by decide)) (
  fm (z_iload (i := 4) (by decide +kernel)) (
  fm (z_iload_n (j := 2) (by decide +kernel) rfl) (
  fm (z_icmp_ge (off := 23) (by decide +kernel) (by decide)) (
  fm (z_aload_n (j := 0) (by decide +kernel) rfl) (
  fm (z_inv (idx := 113) rfl (by decide +kernel) wd_4_166 wd_4_168 ws_39 wd_1_7 wd_4_169 (by decide +kernel) ⟨Nat.le_of_ble_eq_true rfl, Nat.le_of_ble_eq_true rfl⟩) (
  fm (z_istore (i := 5) (by decide +kernel) (by decide)) (
  fm (z_iload_n (j := 3) (by decide +kernel) rfl) (
  fm (z_aload_n (j := 0) (by decide +kernel) rfl) (
  fm (z_iload_n (j := 1) (by decide +kernel) rfl) (
  fm (z_inv (idx := 178) rfl (by decide +kernel) wd_5_58 wd_5_60 ws_54 wd_1_7 wd_5_61 (by decide +kernel) ⟨Nat.le_of_ble_eq_true rfl, Nat.le_of_ble_eq_true rfl⟩) (
  fm (z_ior (by decide +kernel)) (
  fm (z_istore_n (j := 3) (by decide +kernel) rfl (by decide)) (
  fm (z_iinc (n := 1) (by decide +kernel) (by decide) (by decide)) (
  fm (z_goto (off := (-23)) (by decide +kernel) (by decide)) (
  fm (z_aload_n (j := 0) (by decide +kernel) rfl) (
  fm (z_inv (idx := 142) rfl (by decide +kernel) wd_4_216 wd_4_218 ws_47 wd_1_7 wd_4_219 (by decide +kernel) ⟨Nat.le_of_ble_eq_true rfl, Nat.le_of_ble_eq_true rfl⟩) (
  fm (z_iload_n (j := 3) (by decide +kernel) rfl) (
  fm (z_iret rfl (by decide +kernel)) (fn)))))))))))))))))))))))))))))))))))))))))))))
def kX5_everyPlace : Cd := [(0, s_aload 0 1), (1, s_pushi 1 2), (2, s_aload 0 3), (3, s_getf 5 0 6), (6, s_pushi 1 7), (7, s_iald 8), (8, s_bin (fun x y => x <<< (y &&& 31)) 9), (9, s_pushi 1 10), (10, s_bin (fun x y => x - y) 11), (11, s_inv mX5_placesOf 5 1 14), (14, s_iret)]
set_option maxRecDepth 20000 in
theorem zX5_everyPlace : ∀ q ∈ kX5_everyPlace, Snd RX5 cX5_everyPlace 1 (some .int) (rmM mX5_everyPlace) q.1 q.2 :=
  fm (z_aload_n (j := 0) (by decide +kernel) rfl) (
  fm (z_iconst (n := 1) (by decide +kernel) (by decide)) (
  fm (z_aload_n (j := 0) (by decide +kernel) rfl) (
  fm (z_getf (idx := 7) awX5 rfl (by decide) wd_4_12 rfl (by decide +kernel)) (
  fm (z_iconst (n := 1) (by decide +kernel) (by decide)) (
  fm (z_iald (by decide +kernel)) (
  fm (z_ishl (by decide +kernel)) (
  fm (z_iconst (n := 1) (by decide +kernel) (by decide)) (
  fm (z_isub (by decide +kernel)) (
  fm (z_inv (idx := 107) rfl (by decide +kernel) wd_4_178 wd_4_180 ws_42 wd_1_7 wd_4_181 (by decide +kernel) ⟨Nat.le_of_ble_eq_true rfl, Nat.le_of_ble_eq_true rfl⟩) (
  fm (z_iret rfl (by decide +kernel)) (fn)))))))))))
def kX5_farFrom : Cd := [(0, s_pushi 1 1), (1, s_istore 2 2), (2, s_iload 1 3), (3, s_iload 0 4), (4, s_iload 2 5), (5, s_bin (fun x y => x + y) 6), (6, s_pushi 12 8), (8, s_rem 9), (9, s_invS mX5_has 2 12), (12, s_if (fun x => x = 0) 21 15), (15, s_iinc 2 1 18), (18, s_goto 2), (21, s_iload 2 22), (22, s_iret)]
set_option maxRecDepth 20000 in
theorem zX5_farFrom : ∀ q ∈ kX5_farFrom, Snd RX5 cX5_farFrom 3 (some .int) (rmM mX5_farFrom) q.1 q.2 :=
  fm (z_iconst (n := 1) (by decide +kernel) (by decide)) (
  fm (z_istore_n (j := 2) (by decide +kernel) rfl (by decide)) (
  fm (z_iload_n (j := 1) (by decide +kernel) rfl) (
  fm (z_iload_n (j := 0) (by decide +kernel) rfl) (
  fm (z_iload_n (j := 2) (by decide +kernel) rfl) (
  fm (z_iadd (by decide +kernel)) (
  fm (z_bipush (n := 12) (by decide +kernel) (by decide)) (
  fm (z_irem (by decide +kernel)) (
  fm (z_invS (idx := 99) (by decide +kernel) wd_4_182 wd_4_183 wd_1_7 wd_4_184 (by decide +kernel) ⟨Nat.le_of_ble_eq_true rfl, Nat.le_of_ble_eq_true rfl⟩) (
  fm (z_if_eq (off := 9) (by decide +kernel) (by decide)) (
  fm (z_iinc (n := 1) (by decide +kernel) (by decide) (by decide)) (
  fm (z_goto (off := (-16)) (by decide +kernel) (by decide)) (
  fm (z_iload_n (j := 2) (by decide +kernel) rfl) (
  fm (z_iret rfl (by decide +kernel)) (fn))))))))))))))
def kX5_feed : Cd := [(0, s_iload 2 1), (1, s_i2l 2), (2, s_pushl 1 3), (3, s_pushl 4 6), (6, s_invS mX5_in 3 9), (9, s_if (fun x => x = 0) 12 19), (12, s_aload 0 13), (13, s_pushi (-1000001) 15), (15, s_inv mX5_finds 5 1 18), (18, s_iret), (19, s_aload 0 20), (20, s_getf 5 8 23), (23, s_iload 2 24), (24, s_bin (fun x y => x + y) 25), (25, s_pushi 120 27), (27, s_icmp (fun x y => x ≤ y) 37 30), (30, s_aload 0 31), (31, s_pushi (-1000002) 33), (33, s_inv mX5_finds 5 1 36), (36, s_iret), (37, s_iload 2 38), (38, s_pushi 1 39), (39, s_bin (fun x y => x - y) 40), (40, s_istore 3 41), (41, s_iload 3 42), (42, s_if (fun x => x < 0) 80 45), (45, s_aload 0 46), (46, s_getf 5 7 49), (49, s_aload 0 50), (50, s_getf 5 8 53), (53, s_iload 1 54), (54, s_pushi 8 56), (56, s_iload 3 57), (57, s_bin (fun x y => x * y) 58), (58, s_bin (fun x y => x >>> (y &&& 31)) 59), (59, s_pushi 255 62), (62, s_bin (fun x y => x &&& y) 63), (63, s_iast 64), (64, s_aload 0 65), (65, s_dup 66), (66, s_getf 5 8 69), (69, s_pushi 1 70), (70, s_bin (fun x y => x + y) 71), (71, s_putf .int 5 8 74), (74, s_iinc 3 (-1) 77), (77, s_goto 41), (80, s_aload 0 81), (81, s_getf 5 8 84), (84, s_iret)]
set_option maxRecDepth 20000 in
theorem zX5_feed : ∀ q ∈ kX5_feed, Snd RX5 cX5_feed 4 (some .int) (rmM mX5_feed) q.1 q.2 :=
  fm (z_iload_n (j := 2) (by decide +kernel) rfl) (
  fm (z_i2l (by decide +kernel)) (
  fm (z_lconst (n := 1) (by decide +kernel) (by decide)) (
  fm (z_ldc2 (i := 192) (by decide +kernel) wd_5_116) (
  fm (z_invS (idx := 43) (by decide +kernel) wd_4_72 wd_4_73 wd_1_7 wd_4_74 (by decide +kernel) ⟨Nat.le_of_ble_eq_true rfl, Nat.le_of_ble_eq_true rfl⟩) (
  fm (z_if_ne (off := 10) (by decide +kernel) (by decide)) (
  fm (z_aload_n (j := 0) (by decide +kernel) rfl) (
  fm (z_ldc (i := 40) (by decide +kernel) wd_4_76) (
  fm (z_inv (idx := 58) rfl (by decide +kernel) wd_4_77 wd_4_79 ws_28 wd_1_7 wd_4_80 (by decide +kernel) ⟨Nat.le_of_ble_eq_true rfl, Nat.le_of_ble_eq_true rfl⟩) (
  fm (z_iret rfl (by decide +kernel)) (
  fm (z_aload_n (j := 0) (by decide +kernel) rfl) (
  fm (z_getf (idx := 194) awX5 rfl (by decide) wd_4_20 rfl (by decide +kernel)) (
  fm (z_iload_n (j := 2) (by decide +kernel) rfl) (
  fm (z_iadd (by decide +kernel)) (
  fm (z_bipush (n := 120) (by decide +kernel) (by decide)) (
  fm (z_icmp_le (off := 10) (by decide +kernel) (by decide)) (
  fm (z_aload_n (j := 0) (by decide +kernel) rfl) (
  fm (z_ldc (i := 71) (by decide +kernel) wd_4_106) (
  fm (z_inv (idx := 58) rfl (by decide +kernel) wd_4_77 wd_4_79 ws_28 wd_1_7 wd_4_80 (by decide +kernel) ⟨Nat.le_of_ble_eq_true rfl, Nat.le_of_ble_eq_true rfl⟩) (
  fm (z_iret rfl (by decide +kernel)) (
  fm (z_iload_n (j := 2) (by decide +kernel) rfl) (
  fm (z_iconst (n := 1) (by decide +kernel) (by decide)) (
  fm (z_isub (by decide +kernel)) (
  fm (z_istore_n (j := 3) (by decide +kernel) rfl (by decide)) (
  fm (z_iload_n (j := 3) (by decide +kernel) rfl) (
  fm (z_if_lt (off := 38) (by decide +kernel) (by decide)) (
  fm (z_aload_n (j := 0) (by decide +kernel) rfl) (
  fm (z_getf (idx := 25) awX5 rfl (by decide) wd_4_19 rfl (by decide +kernel)) (
  fm (z_aload_n (j := 0) (by decide +kernel) rfl) (
  fm (z_getf (idx := 194) awX5 rfl (by decide) wd_4_20 rfl (by decide +kernel)) (
  fm (z_iload_n (j := 1) (by decide +kernel) rfl) (
  fm (z_bipush (n := 8) (by decide +kernel) (by decide)) (
  fm (z_iload_n (j := 3) (by decide +kernel) rfl) (
  fm (z_imul (by decide +kernel)) (
  fm (z_ishr (by decide +kernel)) (
  fm (z_sipush (n := 255) (by decide +kernel) (by decide)) (
  fm (z_iand (by decide +kernel)) (
  fm (z_iast (by decide +kernel)) (
  fm (z_aload_n (j := 0) (by decide +kernel) rfl) (
  fm (z_dup (by decide +kernel)) (
  fm (z_getf (idx := 194) awX5 rfl (by decide) wd_4_20 rfl (by decide +kernel)) (
  fm (z_iconst (n := 1) (by decide +kernel) (by decide)) (
  fm (z_iadd (by decide +kernel)) (
  fm (z_putf (idx := 194) tyX5 tyX5_ok nmX5 awX5 rfl (by decide) wd_4_20 rfl rfl (by decide +kernel) (by decide +kernel)) (
  fm (z_iinc (n := (-1)) (by decide +kernel) (by decide) (by decide)) (
  fm (z_goto (off := (-36)) (by decide +kernel) (by decide)) (
  fm (z_aload_n (j := 0) (by decide +kernel) rfl) (
  fm (z_getf (idx := 194) awX5 rfl (by decide) wd_4_20 rfl (by decide +kernel)) (
  fm (z_iret rfl (by decide +kernel)) (fn)))))))))))))))))))))))))))))))))))))))))))))))))
def kX5_finds : Cd := [(0, s_aload 0 1), (1, s_getf 5 3 4), (4, s_pushi (-1000001) 6), (6, s_iload 1 7), (7, s_bin (fun x y => x - y) 8), (8, s_dup2 9), (9, s_iald 10), (10, s_pushi 1 11), (11, s_bin (fun x y => x + y) 12), (12, s_iast 13), (13, s_iload 1 14), (14, s_iret)]
set_option maxRecDepth 20000 in
theorem zX5_finds : ∀ q ∈ kX5_finds, Snd RX5 cX5_finds 2 (some .int) (rmM mX5_finds) q.1 q.2 :=
  fm (z_aload_n (j := 0) (by decide +kernel) rfl) (
  fm (z_getf (idx := 19) awX5 rfl (by decide) wd_4_15 rfl (by decide +kernel)) (
  fm (z_ldc (i := 40) (by decide +kernel) wd_4_76) (
  fm (z_iload_n (j := 1) (by decide +kernel) rfl) (
  fm (z_isub (by decide +kernel)) (
  fm (z_dup2 (by decide +kernel)) (
  fm (z_iald (by decide +kernel)) (
  fm (z_iconst (n := 1) (by decide +kernel) (by decide)) (
  fm (z_iadd (by decide +kernel)) (
  fm (z_iast (by decide +kernel)) (
  fm (z_iload_n (j := 1) (by decide +kernel) rfl) (
  fm (z_iret rfl (by decide +kernel)) (fn))))))))))))
def kX5_firstOrder : Cd := [(0, s_pushi 0 1), (1, s_istore 1 2), (2, s_iload 1 3), (3, s_pushi 8 5), (5, s_icmp (fun x y => y ≤ x) 21 8), (8, s_aload 0 9), (9, s_getf 5 5 12), (12, s_iload 1 13), (13, s_iload 1 14), (14, s_iast 15), (15, s_iinc 1 1 18), (18, s_goto 2), (21, s_vret)]
set_option maxRecDepth 20000 in
theorem zX5_firstOrder : ∀ q ∈ kX5_firstOrder, Snd RX5 cX5_firstOrder 2 none (rmM mX5_firstOrder) q.1 q.2 :=
  fm (z_iconst (n := 0) (by decide +kernel) (by decide)) (
  fm (z_istore_n (j := 1) (by decide +kernel) rfl (by decide)) (
  fm (z_iload_n (j := 1) (by decide +kernel) rfl) (
  fm (z_bipush (n := 8) (by decide +kernel) (by decide)) (
  fm (z_icmp_ge (off := 16) (by decide +kernel) (by decide)) (
  fm (z_aload_n (j := 0) (by decide +kernel) rfl) (
  fm (z_getf (idx := 22) awX5 rfl (by decide) wd_4_17 rfl (by decide +kernel)) (
  fm (z_iload_n (j := 1) (by decide +kernel) rfl) (
  fm (z_iload_n (j := 1) (by decide +kernel) rfl) (
  fm (z_iast (by decide +kernel)) (
  fm (z_iinc (n := 1) (by decide +kernel) (by decide) (by decide)) (
  fm (z_goto (off := (-16)) (by decide +kernel) (by decide)) (
  fm (z_vret rfl (by decide +kernel)) (fn)))))))))))))
def kX5_fit : Cd := [(0, s_aload 0 1), (1, s_iload 1 2), (2, s_inv mX5_wrong 5 1 5), (5, s_istore 2 6), (6, s_iload 2 7), (7, s_if (fun x => x = 0) 10 17), (10, s_aload 0 11), (11, s_pushi 24 13), (13, s_inv mX5_orderWrong 5 1 16), (16, s_istore 2 17), (17, s_iload 2 18), (18, s_if (fun x => x = 0) 27 21), (21, s_aload 0 22), (22, s_iload 2 23), (23, s_inv mX5_finds 5 1 26), (26, s_iret), (27, s_pushi 1 28), (28, s_istore 3 29), (29, s_pushi 40 31), (31, s_iload 1 32), (32, s_bin (fun x y => x * y) 33), (33, s_istore 4 35), (35, s_iload 4 37), (37, s_pushi 2 38), (38, s_bin (fun x y => x + y) 39), (39, s_pushi 40 41), (41, s_iload 1 42), (42, s_bin (fun x y => x * y) 43), (43, s_aload 0 44), (44, s_getf 5 14 47), (47, s_iload 1 48), (48, s_iald 49), (49, s_bin (fun x y => x + y) 50), (50, s_icmp (fun x y => y ≤ x) 118 53), (53, s_iload 3 54), (54, s_if (fun x => x = 0) 110 57), (57, s_aload 0 58), (58, s_aload 0 59), (59, s_getf 5 15 62), (62, s_iload 4 64), (64, s_iald 65), (65, s_inv mX5_isStall 5 1 68), (68, s_if (fun x => x = 0) 110 71), (71, s_aload 0 72), (72, s_getf 5 15 75), (75, s_iload 4 77), (77, s_pushi 1 78), (78, s_bin (fun x y => x + y) 79), (79, s_iald 80), (80, s_invS mX5_isPlace 1 83), (83, s_if (fun x => x = 0) 110 86), (86, s_aload 0 87), (87, s_getf 5 15 90), (90, s_iload 4 92), (92, s_pushi 2 93), (93, s_bin (fun x y => x + y) 94), (94, s_iald 95), (95, s_i2l 96), (96, s_pushl 0 97), (97, s_pushl 24 100), (100, s_invS mX5_in 3 103), (103, s_if (fun x => x = 0) 110 106), (106, s_pushi 1 107), (107, s_goto 111), (110, s_pushi 0 111), (111, s_istore 3 112), (112, s_iinc 4 3 115), (115, s_goto 35), (118, s_aload 0 119), (119, s_inv mX5_saves 5 0 122), (122, s_aload 0 123), (123, s_inv mX5_firstOrder 5 0 126), (126, s_pushi 0 127), (127, s_istore 4 129), (129, s_iload 3 130), (130, s_if (fun x => x = 0) 204 133), (133, s_aload 0 134), (134, s_inv mX5_lays 5 0 137), (137, s_aload 0 138), (138, s_iload 1 139), (139, s_pushi 0 140), (140, s_inv mX5_isSo 5 2 143), (143, s_istore 5 145), (145, s_pushi 1 146), (146, s_istore 6 148), (148, s_iload 6 150), (150, s_pushi 25 152), (152, s_icmp (fun x y => y ≤ x) 181 155), (155, s_iload 5 157), (157, s_if (fun x => x = 0) 181 160), (160, s_aload 0 161), (161, s_inv mX5_hour 5 0 164), (164, s_istore 7 166), (166, s_aload 0 167), (167, s_iload 1 168), (168, s_iload 6 170), (170, s_inv mX5_isSo 5 2 173), (173, s_istore 5 175), (175, s_iinc 6 1 178), (178, s_goto 148), (181, s_iload 4 183), (183, s_iload 5 185), (185, s_if (fun x => x = 0) 192 188), (188, s_pushi 1 189), (189, s_goto 193), (192, s_pushi 0 193), (193, s_bin (fun x y => x + y) 194), (194, s_istore 4 196), (196, s_aload 0 197), (197, s_inv mX5_nextOrder 5 0 200), (200, s_istore 3 201), (201, s_goto 129), (204, s_aload 0 205), (205, s_inv mX5_putsBack 5 0 208), (208, s_iload 4 210), (210, s_iret)]
set_option maxRecDepth 20000 in
theorem zX5_fit : ∀ q ∈ kX5_fit, Snd RX5 cX5_fit 8 (some .int) (rmM mX5_fit) q.1 q.2 :=
  fm (z_aload_n (j := 0) (by decide +kernel) rfl) (
  fm (z_iload_n (j := 1) (by decide +kernel) rfl) (
  fm (z_inv (idx := 301) rfl (by decide +kernel) wd_5_218 wd_5_220 ws_70 wd_1_7 wd_5_221 (by decide +kernel) ⟨Nat.le_of_ble_eq_true rfl, Nat.le_of_ble_eq_true rfl⟩) (
  fm (z_istore_n (j := 2) (by decide +kernel) rfl (by decide)) (
  fm (z_iload_n (j := 2) (by decide +kernel) rfl) (
  fm (z_if_ne (off := 10) (by decide +kernel) (by decide)) (
  fm (z_aload_n (j := 0) (by decide +kernel) rfl) (
  fm (z_bipush (n := 24) (by decide +kernel) (by decide)) (
  fm (z_inv (idx := 163) rfl (by decide +kernel) wd_5_6 wd_5_8 ws_48 wd_1_7 wd_5_9 (by decide +kernel) ⟨Nat.le_of_ble_eq_true rfl, Nat.le_of_ble_eq_true rfl⟩) (
  fm (z_istore_n (j := 2) (by decide +kernel) rfl (by decide)) (
  fm (z_iload_n (j := 2) (by decide +kernel) rfl) (
  fm (z_if_eq (off := 9) (by decide +kernel) (by decide)) (
  fm (z_aload_n (j := 0) (by decide +kernel) rfl) (
  fm (z_iload_n (j := 2) (by decide +kernel) rfl) (
  fm (z_inv (idx := 58) rfl (by decide +kernel) wd_4_77 wd_4_79 ws_28 wd_1_7 wd_4_80 (by decide +kernel) ⟨Nat.le_of_ble_eq_true rfl, Nat.le_of_ble_eq_true rfl⟩) (
  fm (z_iret rfl (by decide +kernel)) (
  fm (z_iconst (n := 1) (by decide +kernel) (by decide)) (
  fm (z_istore_n (j := 3) (by decide +kernel) rfl (by decide)) (
  fm (z_bipush (n := 40) (by decide +kernel) (by decide)) (
  fm (z_iload_n (j := 1) (by decide +kernel) rfl) (
  fm (z_imul (by decide +kernel)) (
  fm (z_istore (i := 4) (by decide +kernel) (by decide)) (
  fm (z_iload (i := 4) (by decide +kernel)) (
  fm (z_iconst (n := 2) (by decide +kernel) (by decide)) (
  fm (z_iadd (by decide +kernel)) (
  fm (z_bipush (n := 40) (by decide +kernel) (by decide)) (
  fm (z_iload_n (j := 1) (by decide +kernel) rfl) (
  fm (z_imul (by decide +kernel)) (
  fm (z_aload_n (j := 0) (by decide +kernel) rfl) (
  fm (z_getf (idx := 31) awX5 rfl (by decide) wd_4_26 rfl (by decide +kernel)) (
  fm (z_iload_n (j := 1) (by decide +kernel) rfl) (
  fm (z_iald (by decide +kernel)) (
  fm (z_iadd (by decide +kernel)) (
  fm (z_icmp_ge (off := 68) (by decide +kernel) (by decide)) (
  fm (z_iload_n (j := 3) (by decide +kernel) rfl) (
  fm (z_if_eq (off := 56) (by decide +kernel) (by decide)) (
  fm (z_aload_n (j := 0) (by decide +kernel) rfl) (
  fm (z_aload_n (j := 0) (by decide +kernel) rfl) (
  fm (z_getf (idx := 34) awX5 rfl (by decide) wd_4_27 rfl (by decide +kernel)) (
  fm (z_iload (i := 4) (by decide +kernel)) (
  fm (z_iald (by decide +kernel)) (
  fm (z_inv (idx := 76) rfl (by decide +kernel) wd_4_115 wd_4_117 ws_32 wd_1_7 wd_4_118 (by decide +kernel) ⟨Nat.le_of_ble_eq_true rfl, Nat.le_of_ble_eq_true rfl⟩) (
  fm (z_if_eq (off := 42) (by decide +kernel) (by decide)) (
  fm (z_aload_n (j := 0) (by decide +kernel) rfl) (
  fm (z_getf (idx := 34) awX5 rfl (by decide) wd_4_27 rfl (by decide +kernel)) (
  fm (z_iload (i := 4) (by decide +kernel)) (
  fm (z_iconst (n := 1) (by decide +kernel) (by decide)) (
  fm (z_iadd (by decide +kernel)) (
  fm (z_iald (by decide +kernel)) (
  fm (z_invS (idx := 52) (by decide +kernel) wd_4_68 wd_4_69 wd_1_7 wd_4_70 (by decide +kernel) ⟨Nat.le_of_ble_eq_true rfl, Nat.le_of_ble_eq_true rfl⟩) (
  fm (z_if_eq (off := 27) (by decide +kernel) (by decide)) (
  fm (z_aload_n (j := 0) (by decide +kernel) rfl) (
  fm (z_getf (idx := 34) awX5 rfl (by decide) wd_4_27 rfl (by decide +kernel)) (
  fm (z_iload (i := 4) (by decide +kernel)) (
  fm (z_iconst (n := 2) (by decide +kernel) (by decide)) (
  fm (z_iadd (by decide +kernel)) (
  fm (z_iald (by decide +kernel)) (
  fm (z_i2l (by decide +kernel)) (
  fm (z_lconst (n := 0) (by decide +kernel) (by decide)) (
  fm (z_ldc2 (i := 161) (by decide +kernel) wd_5_5) (
  fm (z_invS (idx := 43) (by decide +kernel) wd_4_72 wd_4_73 wd_1_7 wd_4_74 (by decide +kernel) ⟨Nat.le_of_ble_eq_true rfl, Nat.le_of_ble_eq_true rfl⟩) (
  fm (z_if_eq (off := 7) (by decide +kernel) (by decide)) (
  fm (z_iconst (n := 1) (by decide +kernel) (by decide)) (
  fm (z_goto (off := 4) (by decide +kernel) (by decide)) (
  fm (z_iconst (n := 0) (by decide +kernel) (by decide)) (
  fm (z_istore_n (j := 3) (by decide +kernel) rfl (by decide)) (
  fm (z_iinc (n := 3) (by decide +kernel) (by decide) (by decide)) (
  fm (z_goto (off := (-80)) (by decide +kernel) (by decide)) (
  fm (z_aload_n (j := 0) (by decide +kernel) rfl) (
  fm (z_inv (idx := 130) rfl (by decide +kernel) wd_4_200 wd_4_202 ws_43 wd_1_7 wd_4_203 (by decide +kernel) ⟨Nat.le_of_ble_eq_true rfl, Nat.le_of_ble_eq_true rfl⟩) (
  fm (z_aload_n (j := 0) (by decide +kernel) rfl) (
  fm (z_inv (idx := 147) rfl (by decide +kernel) wd_5_15 wd_5_17 ws_50 wd_1_7 wd_5_18 (by decide +kernel) ⟨Nat.le_of_ble_eq_true rfl, Nat.le_of_ble_eq_true rfl⟩) (
  fm (z_iconst (n := 0) (by decide +kernel) (by decide)) (
  fm (z_istore (i := 4) (by decide +kernel) (by decide)) (
  fm (z_iload_n (j := 3) (by decide +kernel) rfl) (
  fm (z_if_eq (off := 74) (by decide +kernel) (by decide)) (
  fm (z_aload_n (j := 0) (by decide +kernel) rfl) (
  fm (z_inv (idx := 150) rfl (by decide +kernel) wd_5_19 wd_5_21 ws_51 wd_1_7 wd_5_22 (by decide +kernel) ⟨Nat.le_of_ble_eq_true rfl, Nat.le_of_ble_eq_true rfl⟩) (
  fm (z_aload_n (j := 0) (by decide +kernel) rfl) (
  fm (z_iload_n (j := 1) (by decide +kernel) rfl) (
  fm (z_iconst (n := 0) (by decide +kernel) (by decide)) (
  fm (z_inv (idx := 307) rfl (by decide +kernel) wd_5_237 wd_5_239 ws_71 wd_1_7 wd_6_0 (by decide +kernel) ⟨Nat.le_of_ble_eq_true rfl, Nat.le_of_ble_eq_true rfl⟩) (
  fm (z_istore (i := 5) (by decide +kernel) (by decide)) (
  fm (z_iconst (n := 1) (by decide +kernel) (by decide)) (
  fm (z_istore (i := 6) (by decide +kernel) (by decide)) (
  fm (z_iload (i := 6) (by decide +kernel)) (
  fm (z_bipush (n := 25) (by decide +kernel) (by decide)) (
  fm (z_icmp_ge (off := 29) (by decide +kernel) (by decide)) (
  fm (z_iload (i := 5) (by decide +kernel)) (
  fm (z_if_eq (off := 24) (by decide +kernel) (by decide)) (
  fm (z_aload_n (j := 0) (by decide +kernel) rfl) (
  fm (z_inv (idx := 113) rfl (by decide +kernel) wd_4_166 wd_4_168 ws_39 wd_1_7 wd_4_169 (by decide +kernel) ⟨Nat.le_of_ble_eq_true rfl, Nat.le_of_ble_eq_true rfl⟩) (
  fm (z_istore (i := 7) (by decide +kernel) (by decide)) (
  fm (z_aload_n (j := 0) (by decide +kernel) rfl) (
  fm (z_iload_n (j := 1) (by decide +kernel) rfl) (
  fm (z_iload (i := 6) (by decide +kernel)) (
  fm (z_inv (idx := 307) rfl (by decide +kernel) wd_5_237 wd_5_239 ws_71 wd_1_7 wd_6_0 (by decide +kernel) ⟨Nat.le_of_ble_eq_true rfl, Nat.le_of_ble_eq_true rfl⟩) (
  fm (z_istore (i := 5) (by decide +kernel) (by decide)) (
  fm (z_iinc (n := 1) (by decide +kernel) (by decide) (by decide)) (
  fm (z_goto (off := (-30)) (by decide +kernel) (by decide)) (
  fm (z_iload (i := 4) (by decide +kernel)) (
  fm (z_iload (i := 5) (by decide +kernel)) (
  fm (z_if_eq (off := 7) (by decide +kernel) (by decide)) (
  fm (z_iconst (n := 1) (by decide +kernel) (by decide)) (
  fm (z_goto (off := 4) (by decide +kernel) (by decide)) (
  fm (z_iconst (n := 0) (by decide +kernel) (by decide)) (
  fm (z_iadd (by decide +kernel)) (
  fm (z_istore (i := 4) (by decide +kernel) (by decide)) (
  fm (z_aload_n (j := 0) (by decide +kernel) rfl) (
  fm (z_inv (idx := 157) rfl (by decide +kernel) wd_5_23 wd_5_25 ws_52 wd_1_7 wd_5_26 (by decide +kernel) ⟨Nat.le_of_ble_eq_true rfl, Nat.le_of_ble_eq_true rfl⟩) (
  fm (z_istore_n (j := 3) (by decide +kernel) rfl (by decide)) (
  fm (z_goto (off := (-72)) (by decide +kernel) (by decide)) (
  fm (z_aload_n (j := 0) (by decide +kernel) rfl) (
  fm (z_inv (idx := 142) rfl (by decide +kernel) wd_4_216 wd_4_218 ws_47 wd_1_7 wd_4_219 (by decide +kernel) ⟨Nat.le_of_ble_eq_true rfl, Nat.le_of_ble_eq_true rfl⟩) (
  fm (z_iload (i := 4) (by decide +kernel)) (
  fm (z_iret rfl (by decide +kernel)) (fn))))))))))))))))))))))))))))))))))))))))))))))))))))))))))))))))))))))))))))))))))))))))))))))))))))))))))))))))))))
def kX5_freePlace : Cd := [(0, s_pushi 0 1), (1, s_istore 1 2), (2, s_aload 0 3), (3, s_getf 5 9 6), (6, s_istore 2 7), (7, s_iload 2 8), (8, s_aload 0 9), (9, s_getf 5 10 12), (12, s_icmp (fun x y => y ≤ x) 61 15), (15, s_aload 0 16), (16, s_aload 0 17), (17, s_getf 5 9 20), (20, s_inv mX5_byteAt 5 1 23), (23, s_invS mX5_isDigit 1 26), (26, s_if (fun x => x = 0) 61 29), (29, s_iload 1 30), (30, s_pushi 999 33), (33, s_icmp (fun x y => x ≤ y) 40 36), (36, s_iload 1 37), (37, s_goto 54), (40, s_pushi 10 42), (42, s_iload 1 43), (43, s_bin (fun x y => x * y) 44), (44, s_aload 0 45), (45, s_getf 5 7 48), (48, s_iload 2 49), (49, s_iald 50), (50, s_bin (fun x y => x + y) 51), (51, s_pushi 48 53), (53, s_bin (fun x y => x - y) 54), (54, s_istore 1 55), (55, s_iinc 2 1 58), (58, s_goto 7), (61, s_aload 0 62), (62, s_iload 1 63), (63, s_putf .int 5 11 66), (66, s_aload 0 67), (67, s_aload 0 68), (68, s_aload 0 69), (69, s_getf 5 9 72), (72, s_inv mX5_byteAt 5 1 75), (75, s_invS mX5_isDigit 1 78), (78, s_if (fun x => x = 0) 100 81), (81, s_iload 1 82), (82, s_invS mX5_isPlace 1 85), (85, s_if (fun x => x = 0) 100 88), (88, s_aload 0 89), (89, s_iload 1 90), (90, s_inv mX5_stallAt 5 1 93), (93, s_if (fun x => 0 ≤ x) 100 96), (96, s_pushi 1 97), (97, s_goto 101), (100, s_pushi 0 101), (101, s_inv mX5_needs 5 1 104), (104, s_vret)]
set_option maxRecDepth 20000 in
theorem zX5_freePlace : ∀ q ∈ kX5_freePlace, Snd RX5 cX5_freePlace 3 none (rmM mX5_freePlace) q.1 q.2 :=
  fm (z_iconst (n := 0) (by decide +kernel) (by decide)) (
  fm (z_istore_n (j := 1) (by decide +kernel) rfl (by decide)) (
  fm (z_aload_n (j := 0) (by decide +kernel) rfl) (
  fm (z_getf (idx := 206) awX5 rfl (by decide) wd_4_21 rfl (by decide +kernel)) (
  fm (z_istore_n (j := 2) (by decide +kernel) rfl (by decide)) (
  fm (z_iload_n (j := 2) (by decide +kernel) rfl) (
  fm (z_aload_n (j := 0) (by decide +kernel) rfl) (
  fm (z_getf (idx := 203) awX5 rfl (by decide) wd_4_22 rfl (by decide +kernel)) (
  fm (z_icmp_ge (off := 49) (by decide +kernel) (by decide)) (
  fm (z_aload_n (j := 0) (by decide +kernel) rfl) (
  fm (z_aload_n (j := 0) (by decide +kernel) rfl) (
  fm (z_getf (idx := 206) awX5 rfl (by decide) wd_4_21 rfl (by decide +kernel)) (
  fm (z_inv (idx := 209) rfl (by decide +kernel) wd_5_129 wd_5_131 ws_60 wd_1_7 wd_5_132 (by decide +kernel) ⟨Nat.le_of_ble_eq_true rfl, Nat.le_of_ble_eq_true rfl⟩) (
  fm (z_invS (idx := 215) (by decide +kernel) wd_5_138 wd_5_139 wd_1_7 wd_5_140 (by decide +kernel) ⟨Nat.le_of_ble_eq_true rfl, Nat.le_of_ble_eq_true rfl⟩) (
  fm (z_if_eq (off := 35) (by decide +kernel) (by decide)) (
  fm (z_iload_n (j := 1) (by decide +kernel) rfl) (
  fm (z_sipush (n := 999) (by decide +kernel) (by decide)) (
  fm (z_icmp_le (off := 7) (by decide +kernel) (by decide)) (
  fm (z_iload_n (j := 1) (by decide +kernel) rfl) (
  fm (z_goto (off := 17) (by decide +kernel) (by decide)) (
  fm (z_bipush (n := 10) (by decide +kernel) (by decide)) (
  fm (z_iload_n (j := 1) (by decide +kernel) rfl) (
  fm (z_imul (by decide +kernel)) (
  fm (z_aload_n (j := 0) (by decide +kernel) rfl) (
  fm (z_getf (idx := 25) awX5 rfl (by decide) wd_4_19 rfl (by decide +kernel)) (
  fm (z_iload_n (j := 2) (by decide +kernel) rfl) (
  fm (z_iald (by decide +kernel)) (
  fm (z_iadd (by decide +kernel)) (
  fm (z_bipush (n := 48) (by decide +kernel) (by decide)) (
  fm (z_isub (by decide +kernel)) (
  fm (z_istore_n (j := 1) (by decide +kernel) rfl (by decide)) (
  fm (z_iinc (n := 1) (by decide +kernel) (by decide) (by decide)) (
  fm (z_goto (off := (-51)) (by decide +kernel) (by decide)) (
  fm (z_aload_n (j := 0) (by decide +kernel) rfl) (
  fm (z_iload_n (j := 1) (by decide +kernel) rfl) (
  fm (z_putf (idx := 229) tyX5 tyX5_ok nmX5 awX5 rfl (by decide) wd_4_23 rfl rfl (by decide +kernel) (by decide +kernel)) (
  fm (z_aload_n (j := 0) (by decide +kernel) rfl) (
  fm (z_aload_n (j := 0) (by decide +kernel) rfl) (
  fm (z_aload_n (j := 0) (by decide +kernel) rfl) (
  fm (z_getf (idx := 206) awX5 rfl (by decide) wd_4_21 rfl (by decide +kernel)) (
  fm (z_inv (idx := 209) rfl (by decide +kernel) wd_5_129 wd_5_131 ws_60 wd_1_7 wd_5_132 (by decide +kernel) ⟨Nat.le_of_ble_eq_true rfl, Nat.le_of_ble_eq_true rfl⟩) (
  fm (z_invS (idx := 215) (by decide +kernel) wd_5_138 wd_5_139 wd_1_7 wd_5_140 (by decide +kernel) ⟨Nat.le_of_ble_eq_true rfl, Nat.le_of_ble_eq_true rfl⟩) (
  fm (z_if_eq (off := 22) (by decide +kernel) (by decide)) (
  fm (z_iload_n (j := 1) (by decide +kernel) rfl) (
  fm (z_invS (idx := 52) (by decide +kernel) wd_4_68 wd_4_69 wd_1_7 wd_4_70 (by decide +kernel) ⟨Nat.le_of_ble_eq_true rfl, Nat.le_of_ble_eq_true rfl⟩) (
  fm (z_if_eq (off := 15) (by decide +kernel) (by decide)) (
  fm (z_aload_n (j := 0) (by decide +kernel) rfl) (
  fm (z_iload_n (j := 1) (by decide +kernel) rfl) (
  fm (z_inv (idx := 67) rfl (by decide +kernel) wd_4_94 wd_4_96 ws_29 wd_1_7 wd_4_97 (by decide +kernel) ⟨Nat.le_of_ble_eq_true rfl, Nat.le_of_ble_eq_true rfl⟩) (
  fm (z_if_ge (off := 7) (by decide +kernel) (by decide)) (
  fm (z_iconst (n := 1) (by decide +kernel) (by decide)) (
  fm (z_goto (off := 4) (by decide +kernel) (by decide)) (
  fm (z_iconst (n := 0) (by decide +kernel) (by decide)) (
  fm (z_inv (idx := 232) rfl (by decide +kernel) wd_5_168 wd_5_170 ws_65 wd_1_7 wd_5_171 (by decide +kernel) ⟨Nat.le_of_ble_eq_true rfl, Nat.le_of_ble_eq_true rfl⟩) (
  fm (z_vret rfl (by decide +kernel)) (fn)))))))))))))))))))))))))))))))))))))))))))))))))))))))
def kX5_has : Cd := [(0, s_iload 0 1), (1, s_iload 1 2), (2, s_bin (fun x y => x >>> (y &&& 31)) 3), (3, s_pushi 1 4), (4, s_bin (fun x y => x &&& y) 5), (5, s_pushi 1 6), (6, s_icmp (fun x y => x = y) 9 13), (9, s_pushi 1 10), (10, s_goto 14), (13, s_pushi 0 14), (14, s_zret)]
set_option maxRecDepth 20000 in
theorem zX5_has : ∀ q ∈ kX5_has, Snd RX5 cX5_has 2 (some .boolean) (rmM mX5_has) q.1 q.2 :=
  fm (z_iload_n (j := 0) (by decide +kernel) rfl) (
  fm (z_iload_n (j := 1) (by decide +kernel) rfl) (
  fm (z_ishr (by decide +kernel)) (
  fm (z_iconst (n := 1) (by decide +kernel) (by decide)) (
  fm (z_iand (by decide +kernel)) (
  fm (z_iconst (n := 1) (by decide +kernel) (by decide)) (
  fm (z_icmp_ne (off := 7) (by decide +kernel) (by decide)) (
  fm (z_iconst (n := 1) (by decide +kernel) (by decide)) (
  fm (z_goto (off := 4) (by decide +kernel) (by decide)) (
  fm (z_iconst (n := 0) (by decide +kernel) (by decide)) (
  fm (z_zret rfl (by decide +kernel)) (fn)))))))))))
def kX5_held : Cd := [(0, s_pushi 0 1), (1, s_istore 1 2), (2, s_pushi 0 3), (3, s_istore 2 4), (4, s_iload 2 5), (5, s_pushi 10 7), (7, s_icmp (fun x y => y ≤ x) 36 10), (10, s_iload 1 11), (11, s_aload 0 12), (12, s_getf 5 0 15), (15, s_pushi 68 17), (17, s_iload 2 18), (18, s_bin (fun x y => x + y) 19), (19, s_iald 20), (20, s_if (fun x => 0 ≤ x) 27 23), (23, s_pushi 0 24), (24, s_goto 28), (27, s_pushi 1 28), (28, s_bin (fun x y => x + y) 29), (29, s_istore 1 30), (30, s_iinc 2 1 33), (33, s_goto 4), (36, s_iload 1 37), (37, s_iret)]
set_option maxRecDepth 20000 in
theorem zX5_held : ∀ q ∈ kX5_held, Snd RX5 cX5_held 3 (some .int) (rmM mX5_held) q.1 q.2 :=
  fm (z_iconst (n := 0) (by decide +kernel) (by decide)) (
  fm (z_istore_n (j := 1) (by decide +kernel) rfl (by decide)) (
  fm (z_iconst (n := 0) (by decide +kernel) (by decide)) (
  fm (z_istore_n (j := 2) (by decide +kernel) rfl (by decide)) (
  fm (z_iload_n (j := 2) (by decide +kernel) rfl) (
  fm (z_bipush (n := 10) (by decide +kernel) (by decide)) (
  fm (z_icmp_ge (off := 29) (by decide +kernel) (by decide)) (
  fm (z_iload_n (j := 1) (by decide +kernel) rfl) (
  fm (z_aload_n (j := 0) (by decide +kernel) rfl) (
  fm (z_getf (idx := 7) awX5 rfl (by decide) wd_4_12 rfl (by decide +kernel)) (
  fm (z_bipush (n := 68) (by decide +kernel) (by decide)) (
  fm (z_iload_n (j := 2) (by decide +kernel) rfl) (
  fm (z_iadd (by decide +kernel)) (
  fm (z_iald (by decide +kernel)) (
  fm (z_if_ge (off := 7) (by decide +kernel) (by decide)) (
  fm (z_iconst (n := 0) (by decide +kernel) (by decide)) (
  fm (z_goto (off := 4) (by decide +kernel) (by decide)) (
  fm (z_iconst (n := 1) (by decide +kernel) (by decide)) (
  fm (z_iadd (by decide +kernel)) (
  fm (z_istore_n (j := 1) (by decide +kernel) rfl (by decide)) (
  fm (z_iinc (n := 1) (by decide +kernel) (by decide) (by decide)) (
  fm (z_goto (off := (-29)) (by decide +kernel) (by decide)) (
  fm (z_iload_n (j := 1) (by decide +kernel) rfl) (
  fm (z_iret rfl (by decide +kernel)) (fn))))))))))))))))))))))))
def kX5_hold : Cd := [(0, s_iload 1 1), (1, s_i2l 2), (2, s_pushl 0 3), (3, s_pushl 9 6), (6, s_invS mX5_in 3 9), (9, s_if (fun x => x = 0) 25 12), (12, s_iload 2 13), (13, s_pushi (-1) 14), (14, s_icmp (fun x y => x = y) 32 17), (17, s_aload 0 18), (18, s_iload 2 19), (19, s_inv mX5_isStall 5 1 22), (22, s_if (fun x => x = 0) 25 32), (25, s_aload 0 26), (26, s_pushi (-1000001) 28), (28, s_inv mX5_finds 5 1 31), (31, s_iret), (32, s_aload 0 33), (33, s_getf 5 0 36), (36, s_pushi 68 38), (38, s_iload 1 39), (39, s_bin (fun x y => x + y) 40), (40, s_iload 2 41), (41, s_iast 42), (42, s_pushi 1 43), (43, s_iret)]
set_option maxRecDepth 20000 in
theorem zX5_hold : ∀ q ∈ kX5_hold, Snd RX5 cX5_hold 3 (some .int) (rmM mX5_hold) q.1 q.2 :=
  fm (z_iload_n (j := 1) (by decide +kernel) rfl) (
  fm (z_i2l (by decide +kernel)) (
  fm (z_lconst (n := 0) (by decide +kernel) (by decide)) (
  fm (z_ldc2 (i := 292) (by decide +kernel) wd_5_199) (
  fm (z_invS (idx := 43) (by decide +kernel) wd_4_72 wd_4_73 wd_1_7 wd_4_74 (by decide +kernel) ⟨Nat.le_of_ble_eq_true rfl, Nat.le_of_ble_eq_true rfl⟩) (
  fm (z_if_eq (off := 16) (by decide +kernel) (by decide)) (
  fm (z_iload_n (j := 2) (by decide +kernel) rfl) (
  fm (z_iconst (n := (-1)) (by decide +kernel) (by decide)) (
  fm (z_icmp_eq (off := 18) (by decide +kernel) (by decide)) (
  fm (z_aload_n (j := 0) (by decide +kernel) rfl) (
  fm (z_iload_n (j := 2) (by decide +kernel) rfl) (
  fm (z_inv (idx := 76) rfl (by decide +kernel) wd_4_115 wd_4_117 ws_32 wd_1_7 wd_4_118 (by decide +kernel) ⟨Nat.le_of_ble_eq_true rfl, Nat.le_of_ble_eq_true rfl⟩) (
  fm (z_if_ne (off := 10) (by decide +kernel) (by decide)) (
  fm (z_aload_n (j := 0) (by decide +kernel) rfl) (
  fm (z_ldc (i := 40) (by decide +kernel) wd_4_76) (
  fm (z_inv (idx := 58) rfl (by decide +kernel) wd_4_77 wd_4_79 ws_28 wd_1_7 wd_4_80 (by decide +kernel) ⟨Nat.le_of_ble_eq_true rfl, Nat.le_of_ble_eq_true rfl⟩) (
  fm (z_iret rfl (by decide +kernel)) (
  fm (z_aload_n (j := 0) (by decide +kernel) rfl) (
  fm (z_getf (idx := 7) awX5 rfl (by decide) wd_4_12 rfl (by decide +kernel)) (
  fm (z_bipush (n := 68) (by decide +kernel) (by decide)) (
  fm (z_iload_n (j := 1) (by decide +kernel) rfl) (
  fm (z_iadd (by decide +kernel)) (
  fm (z_iload_n (j := 2) (by decide +kernel) rfl) (
  fm (z_iast (by decide +kernel)) (
  fm (z_iconst (n := 1) (by decide +kernel) (by decide)) (
  fm (z_iret rfl (by decide +kernel)) (fn))))))))))))))))))))))))))
def kX5_hour : Cd := [(0, s_pushi 0 1), (1, s_istore 1 2), (2, s_pushi 0 3), (3, s_istore 2 4), (4, s_iload 2 5), (5, s_aload 0 6), (6, s_getf 5 0 9), (9, s_pushi 1 10), (10, s_iald 11), (11, s_icmp (fun x y => y ≤ x) 78 14), (14, s_aload 0 15), (15, s_iload 2 16), (16, s_inv mX5_sells 5 1 19), (19, s_istore 3 20), (20, s_aload 0 21), (21, s_getf 5 0 24), (24, s_iload 2 25), (25, s_pushi 2 26), (26, s_invS mX5_at 2 29), (29, s_dup2 30), (30, s_iald 31), (31, s_iload 3 32), (32, s_bin (fun x y => x - y) 33), (33, s_iast 34), (34, s_aload 0 35), (35, s_getf 5 0 38), (38, s_iload 2 39), (39, s_pushi 4 40), (40, s_invS mX5_at 2 43), (43, s_dup2 44), (44, s_iald 45), (45, s_iload 3 46), (46, s_bin (fun x y => x + y) 47), (47, s_iast 48), (48, s_aload 0 49), (49, s_getf 5 0 52), (52, s_iload 2 53), (53, s_pushi 3 54), (54, s_invS mX5_at 2 57), (57, s_dup2 58), (58, s_iald 59), (59, s_iload 3 60), (60, s_aload 0 61), (61, s_iload 2 62), (62, s_inv mX5_price 5 1 65), (65, s_bin (fun x y => x * y) 66), (66, s_bin (fun x y => x + y) 67), (67, s_iast 68), (68, s_iload 1 69), (69, s_iload 3 70), (70, s_bin (fun x y => x + y) 71), (71, s_istore 1 72), (72, s_iinc 2 1 75), (75, s_goto 4), (78, s_aload 0 79), (79, s_pushi 1 80), (80, s_inv mX5_staying 5 1 83), (83, s_istore 2 84), (84, s_aload 0 85), (85, s_iload 2 86), (86, s_inv mX5_placesOf 5 1 89), (89, s_istore 3 90), (90, s_pushi 0 91), (91, s_istore 4 93), (93, s_iload 4 95), (95, s_aload 0 96), (96, s_getf 5 0 99), (99, s_pushi 1 100), (100, s_iald 101), (101, s_icmp (fun x y => y ≤ x) 156 104), (104, s_aload 0 105), (105, s_iload 4 107), (107, s_pushi 1 108), (108, s_inv mX5_its 5 2 111), (111, s_istore 5 113), (113, s_aload 0 114), (114, s_getf 5 0 117), (117, s_iload 4 119), (119, s_pushi 1 120), (120, s_invS mX5_at 2 123), (123, s_iload 2 124), (124, s_iload 4 126), (126, s_invS mX5_has 2 129), (129, s_if (fun x => x = 0) 137 132), (132, s_iload 5 134), (134, s_goto 149), (137, s_iload 5 139), (139, s_iload 5 141), (141, s_iload 3 142), (142, s_invS mX5_farFrom 2 145), (145, s_bin (fun x y => x + y) 146), (146, s_pushi 12 148), (148, s_rem 149), (149, s_iast 150), (150, s_iinc 4 1 153), (153, s_goto 93), (156, s_aload 0 157), (157, s_getf 5 0 160), (160, s_pushi 0 161), (161, s_dup2 162), (162, s_iald 163), (163, s_pushi 1 164), (164, s_bin (fun x y => x + y) 165), (165, s_iast 166), (166, s_iload 1 167), (167, s_iret)]
set_option maxRecDepth 20000 in
theorem zX5_hour : ∀ q ∈ kX5_hour, Snd RX5 cX5_hour 6 (some .int) (rmM mX5_hour) q.1 q.2 :=
  fm (z_iconst (n := 0) (by decide +kernel) (by decide)) (
  fm (z_istore_n (j := 1) (by decide +kernel) rfl (by decide)) (
  fm (z_iconst (n := 0) (by decide +kernel) (by decide)) (
  fm (z_istore_n (j := 2) (by decide +kernel) rfl (by decide)) (
  fm (z_iload_n (j := 2) (by decide +kernel) rfl) (
  fm (z_aload_n (j := 0) (by decide +kernel) rfl) (
  fm (z_getf (idx := 7) awX5 rfl (by decide) wd_4_12 rfl (by decide +kernel)) (
  fm (z_iconst (n := 1) (by decide +kernel) (by decide)) (
  fm (z_iald (by decide +kernel)) (
  fm (z_icmp_ge (off := 67) (by decide +kernel) (by decide)) (
  fm (z_aload_n (j := 0) (by decide +kernel) rfl) (
  fm (z_iload_n (j := 2) (by decide +kernel) rfl) (
  fm (z_inv (idx := 96) rfl (by decide +kernel) wd_4_170 wd_4_172 ws_40 wd_1_7 wd_4_173 (by decide +kernel) ⟨Nat.le_of_ble_eq_true rfl, Nat.le_of_ble_eq_true rfl⟩) (
  fm (z_istore_n (j := 3) (by decide +kernel) rfl (by decide)) (
  fm (z_aload_n (j := 0) (by decide +kernel) rfl) (
  fm (z_getf (idx := 7) awX5 rfl (by decide) wd_4_12 rfl (by decide +kernel)) (
  fm (z_iload_n (j := 2) (by decide +kernel) rfl) (
  fm (z_iconst (n := 2) (by decide +kernel) (by decide)) (
  fm (z_invS (idx := 48) (by decide +kernel) wd_4_102 wd_4_103 wd_1_7 wd_4_104 (by decide +kernel) ⟨Nat.le_of_ble_eq_true rfl, Nat.le_of_ble_eq_true rfl⟩) (
  fm (z_dup2 (by decide +kernel)) (
  fm (z_iald (by decide +kernel)) (
  fm (z_iload_n (j := 3) (by decide +kernel) rfl) (
  fm (z_isub (by decide +kernel)) (
  fm (z_iast (by decide +kernel)) (
  fm (z_aload_n (j := 0) (by decide +kernel) rfl) (
  fm (z_getf (idx := 7) awX5 rfl (by decide) wd_4_12 rfl (by decide +kernel)) (
  fm (z_iload_n (j := 2) (by decide +kernel) rfl) (
  fm (z_iconst (n := 4) (by decide +kernel) (by decide)) (
  fm (z_invS (idx := 48) (by decide +kernel) wd_4_102 wd_4_103 wd_1_7 wd_4_104 (by decide +kernel) ⟨Nat.le_of_ble_eq_true rfl, Nat.le_of_ble_eq_true rfl⟩) (
  fm (z_dup2 (by decide +kernel)) (
  fm (z_iald (by decide +kernel)) (
  fm (z_iload_n (j := 3) (by decide +kernel) rfl) (
  fm (z_iadd (by decide +kernel)) (
  fm (z_iast (by decide +kernel)) (
  fm (z_aload_n (j := 0) (by decide +kernel) rfl) (
  fm (z_getf (idx := 7) awX5 rfl (by decide) wd_4_12 rfl (by decide +kernel)) (
  fm (z_iload_n (j := 2) (by decide +kernel) rfl) (
  fm (z_iconst (n := 3) (by decide +kernel) (by decide)) (
  fm (z_invS (idx := 48) (by decide +kernel) wd_4_102 wd_4_103 wd_1_7 wd_4_104 (by decide +kernel) ⟨Nat.le_of_ble_eq_true rfl, Nat.le_of_ble_eq_true rfl⟩) (
  fm (z_dup2 (by decide +kernel)) (
  fm (z_iald (by decide +kernel)) (
  fm (z_iload_n (j := 3) (by decide +kernel) rfl) (
  fm (z_aload_n (j := 0) (by decide +kernel) rfl) (
  fm (z_iload_n (j := 2) (by decide +kernel) rfl) (
  fm (z_inv (idx := 79) rfl (by decide +kernel) wd_4_119 wd_4_121 ws_33 wd_1_7 wd_4_122 (by decide +kernel) ⟨Nat.le_of_ble_eq_true rfl, Nat.le_of_ble_eq_true rfl⟩) (
  fm (z_imul (by decide +kernel)) (
  fm (z_iadd (by decide +kernel)) (
  fm (z_iast (by decide +kernel)) (
  fm (z_iload_n (j := 1) (by decide +kernel) rfl) (
  fm (z_iload_n (j := 3) (by decide +kernel) rfl) (
  fm (z_iadd (by decide +kernel)) (
  fm (z_istore_n (j := 1) (by decide +kernel) rfl (by decide)) (
  fm (z_iinc (n := 1) (by decide +kernel) (by decide) (by decide)) (
  fm (z_goto (off := (-71)) (by decide +kernel) (by decide)) (
  fm (z_aload_n (j := 0) (by decide +kernel) rfl) (
  fm (z_iconst (n := 1) (by decide +kernel) (by decide)) (
  fm (z_inv (idx := 103) rfl (by decide +kernel) wd_4_174 wd_4_176 ws_41 wd_1_7 wd_4_177 (by decide +kernel) ⟨Nat.le_of_ble_eq_true rfl, Nat.le_of_ble_eq_true rfl⟩) (
  fm (z_istore_n (j := 2) (by decide +kernel) rfl (by decide)) (
  fm (z_aload_n (j := 0) (by decide +kernel) rfl) (
  fm (z_iload_n (j := 2) (by decide +kernel) rfl) (
  fm (z_inv (idx := 107) rfl (by decide +kernel) wd_4_178 wd_4_180 ws_42 wd_1_7 wd_4_181 (by decide +kernel) ⟨Nat.le_of_ble_eq_true rfl, Nat.le_of_ble_eq_true rfl⟩) (
  fm (z_istore_n (j := 3) (by decide +kernel) rfl (by decide)) (
  fm (z_iconst (n := 0) (by decide +kernel) (by decide)) (
  fm (z_istore (i := 4) (by decide +kernel) (by decide)) (
  fm (z_iload (i := 4) (by decide +kernel)) (
  fm (z_aload_n (j := 0) (by decide +kernel) rfl) (
  fm (z_getf (idx := 7) awX5 rfl (by decide) wd_4_12 rfl (by decide +kernel)) (
  fm (z_iconst (n := 1) (by decide +kernel) (by decide)) (
  fm (z_iald (by decide +kernel)) (
  fm (z_icmp_ge (off := 55) (by decide +kernel) (by decide)) (
  fm (z_aload_n (j := 0) (by decide +kernel) rfl) (
  fm (z_iload (i := 4) (by decide +kernel)) (
  fm (z_iconst (n := 1) (by decide +kernel) (by decide)) (
  fm (z_inv (idx := 62) rfl (by decide +kernel) wd_4_98 wd_4_100 ws_30 wd_1_7 wd_4_101 (by decide +kernel) ⟨Nat.le_of_ble_eq_true rfl, Nat.le_of_ble_eq_true rfl⟩) (
  fm (z_istore (i := 5) (by decide +kernel) (by decide)) (
  fm (z_aload_n (j := 0) (by decide +kernel) rfl) (
  fm (z_getf (idx := 7) awX5 rfl (by decide) wd_4_12 rfl (by decide +kernel)) (
  fm (z_iload (i := 4) (by decide +kernel)) (
  fm (z_iconst (n := 1) (by decide +kernel) (by decide)) (
  fm (z_invS (idx := 48) (by decide +kernel) wd_4_102 wd_4_103 wd_1_7 wd_4_104 (by decide +kernel) ⟨Nat.le_of_ble_eq_true rfl, Nat.le_of_ble_eq_true rfl⟩) (
  fm (z_iload_n (j := 2) (by decide +kernel) rfl) (
  fm (z_iload (i := 4) (by decide +kernel)) (
  fm (z_invS (idx := 99) (by decide +kernel) wd_4_182 wd_4_183 wd_1_7 wd_4_184 (by decide +kernel) ⟨Nat.le_of_ble_eq_true rfl, Nat.le_of_ble_eq_true rfl⟩) (
  fm (z_if_eq (off := 8) (by decide +kernel) (by decide)) (
  fm (z_iload (i := 5) (by decide +kernel)) (
  fm (z_goto (off := 15) (by decide +kernel) (by decide)) (
  fm (z_iload (i := 5) (by decide +kernel)) (
  fm (z_iload (i := 5) (by decide +kernel)) (
  fm (z_iload_n (j := 3) (by decide +kernel) rfl) (
  fm (z_invS (idx := 110) (by decide +kernel) wd_4_185 wd_4_186 wd_1_7 wd_4_187 (by decide +kernel) ⟨Nat.le_of_ble_eq_true rfl, Nat.le_of_ble_eq_true rfl⟩) (
  fm (z_iadd (by decide +kernel)) (
  fm (z_bipush (n := 12) (by decide +kernel) (by decide)) (
  fm (z_irem (by decide +kernel)) (
  fm (z_iast (by decide +kernel)) (
  fm (z_iinc (n := 1) (by decide +kernel) (by decide) (by decide)) (
  fm (z_goto (off := (-60)) (by decide +kernel) (by decide)) (
  fm (z_aload_n (j := 0) (by decide +kernel) rfl) (
  fm (z_getf (idx := 7) awX5 rfl (by decide) wd_4_12 rfl (by decide +kernel)) (
  fm (z_iconst (n := 0) (by decide +kernel) (by decide)) (
  fm (z_dup2 (by decide +kernel)) (
  fm (z_iald (by decide +kernel)) (
  fm (z_iconst (n := 1) (by decide +kernel) (by decide)) (
  fm (z_iadd (by decide +kernel)) (
  fm (z_iast (by decide +kernel)) (
  fm (z_iload_n (j := 1) (by decide +kernel) rfl) (
  fm (z_iret rfl (by decide +kernel)) (fn))))))))))))))))))))))))))))))))))))))))))))))))))))))))))))))))))))))))))))))))))))))))))))))))))))))))))
def kX5_hours : Cd := [(0, s_iload 1 1), (1, s_i2l 2), (2, s_pushl 1 3), (3, s_pushl 48 6), (6, s_invS mX5_in 3 9), (9, s_if (fun x => x = 0) 12 19), (12, s_aload 0 13), (13, s_pushi (-1000001) 15), (15, s_inv mX5_finds 5 1 18), (18, s_iret), (19, s_aload 0 20), (20, s_iload 1 21), (21, s_inv mX5_isTooLate 5 1 24), (24, s_if (fun x => x = 0) 36 27), (27, s_aload 0 28), (28, s_pushi (-1000005) 30), (30, s_inv mX5_finds 5 1 33), (33, s_goto 41), (36, s_aload 0 37), (37, s_iload 1 38), (38, s_inv mX5_hoursGo 5 1 41), (41, s_iret)]
set_option maxRecDepth 20000 in
theorem zX5_hours : ∀ q ∈ kX5_hours, Snd RX5 cX5_hours 2 (some .int) (rmM mX5_hours) q.1 q.2 :=
  fm (z_iload_n (j := 1) (by decide +kernel) rfl) (
  fm (z_i2l (by decide +kernel)) (
  fm (z_lconst (n := 1) (by decide +kernel) (by decide)) (
  fm (z_ldc2 (i := 117) (by decide +kernel) wd_4_157) (
  fm (z_invS (idx := 43) (by decide +kernel) wd_4_72 wd_4_73 wd_1_7 wd_4_74 (by decide +kernel) ⟨Nat.le_of_ble_eq_true rfl, Nat.le_of_ble_eq_true rfl⟩) (
  fm (z_if_ne (off := 10) (by decide +kernel) (by decide)) (
  fm (z_aload_n (j := 0) (by decide +kernel) rfl) (
  fm (z_ldc (i := 40) (by decide +kernel) wd_4_76) (
  fm (z_inv (idx := 58) rfl (by decide +kernel) wd_4_77 wd_4_79 ws_28 wd_1_7 wd_4_80 (by decide +kernel) ⟨Nat.le_of_ble_eq_true rfl, Nat.le_of_ble_eq_true rfl⟩) (
  fm (z_iret rfl (by decide +kernel)) (
  fm (z_aload_n (j := 0) (by decide +kernel) rfl) (
  fm (z_iload_n (j := 1) (by decide +kernel) rfl) (
  fm (z_inv (idx := 119) rfl (by decide +kernel) wd_4_158 wd_4_160 ws_37 wd_1_7 wd_4_161 (by decide +kernel) ⟨Nat.le_of_ble_eq_true rfl, Nat.le_of_ble_eq_true rfl⟩) (
  fm (z_if_eq (off := 12) (by decide +kernel) (by decide)) (
  fm (z_aload_n (j := 0) (by decide +kernel) rfl) (
  fm (z_ldc (i := 70) (by decide +kernel) wd_4_105) (
  fm (z_inv (idx := 58) rfl (by decide +kernel) wd_4_77 wd_4_79 ws_28 wd_1_7 wd_4_80 (by decide +kernel) ⟨Nat.le_of_ble_eq_true rfl, Nat.le_of_ble_eq_true rfl⟩) (
  fm (z_goto (off := 8) (by decide +kernel) (by decide)) (
  fm (z_aload_n (j := 0) (by decide +kernel) rfl) (
  fm (z_iload_n (j := 1) (by decide +kernel) rfl) (
  fm (z_inv (idx := 122) rfl (by decide +kernel) wd_4_162 wd_4_164 ws_38 wd_1_7 wd_4_165 (by decide +kernel) ⟨Nat.le_of_ble_eq_true rfl, Nat.le_of_ble_eq_true rfl⟩) (
  fm (z_iret rfl (by decide +kernel)) (fn))))))))))))))))))))))
def kX5_hoursGo : Cd := [(0, s_pushi 0 1), (1, s_istore 2 2), (2, s_pushi 0 3), (3, s_istore 3 4), (4, s_iload 3 5), (5, s_iload 1 6), (6, s_icmp (fun x y => y ≤ x) 22 9), (9, s_iload 2 10), (10, s_aload 0 11), (11, s_inv mX5_hour 5 0 14), (14, s_bin (fun x y => x + y) 15), (15, s_istore 2 16), (16, s_iinc 3 1 19), (19, s_goto 4), (22, s_iload 2 23), (23, s_iret)]
set_option maxRecDepth 20000 in
theorem zX5_hoursGo : ∀ q ∈ kX5_hoursGo, Snd RX5 cX5_hoursGo 4 (some .int) (rmM mX5_hoursGo) q.1 q.2 :=
  fm (z_iconst (n := 0) (by decide +kernel) (by decide)) (
  fm (z_istore_n (j := 2) (by decide +kernel) rfl (by decide)) (
  fm (z_iconst (n := 0) (by decide +kernel) (by decide)) (
  fm (z_istore_n (j := 3) (by decide +kernel) rfl (by decide)) (
  fm (z_iload_n (j := 3) (by decide +kernel) rfl) (
  fm (z_iload_n (j := 1) (by decide +kernel) rfl) (
  fm (z_icmp_ge (off := 16) (by decide +kernel) (by decide)) (
  fm (z_iload_n (j := 2) (by decide +kernel) rfl) (
  fm (z_aload_n (j := 0) (by decide +kernel) rfl) (
  fm (z_inv (idx := 113) rfl (by decide +kernel) wd_4_166 wd_4_168 ws_39 wd_1_7 wd_4_169 (by decide +kernel) ⟨Nat.le_of_ble_eq_true rfl, Nat.le_of_ble_eq_true rfl⟩) (
  fm (z_iadd (by decide +kernel)) (
  fm (z_istore_n (j := 2) (by decide +kernel) rfl (by decide)) (
  fm (z_iinc (n := 1) (by decide +kernel) (by decide) (by decide)) (
  fm (z_goto (off := (-15)) (by decide +kernel) (by decide)) (
  fm (z_iload_n (j := 2) (by decide +kernel) rfl) (
  fm (z_iret rfl (by decide +kernel)) (fn))))))))))))))))
def kX5_image : Cd := [(0, s_pushi 0 1), (1, s_istore 1 2), (2, s_iload 1 3), (3, s_pushi 78 5), (5, s_icmp (fun x y => y ≤ x) 26 8), (8, s_aload 0 9), (9, s_getf 5 1 12), (12, s_iload 1 13), (13, s_aload 0 14), (14, s_getf 5 0 17), (17, s_iload 1 18), (18, s_iald 19), (19, s_iast 20), (20, s_iinc 1 1 23), (23, s_goto 2), (26, s_aload 0 27), (27, s_pushi 1 28), (28, s_putf .boolean 5 4 31), (31, s_pushi 1 32), (32, s_iret)]
set_option maxRecDepth 20000 in
theorem zX5_image : ∀ q ∈ kX5_image, Snd RX5 cX5_image 2 (some .int) (rmM mX5_image) q.1 q.2 :=
  fm (z_iconst (n := 0) (by decide +kernel) (by decide)) (
  fm (z_istore_n (j := 1) (by decide +kernel) rfl (by decide)) (
  fm (z_iload_n (j := 1) (by decide +kernel) rfl) (
  fm (z_bipush (n := 78) (by decide +kernel) (by decide)) (
  fm (z_icmp_ge (off := 21) (by decide +kernel) (by decide)) (
  fm (z_aload_n (j := 0) (by decide +kernel) rfl) (
  fm (z_getf (idx := 13) awX5 rfl (by decide) wd_4_13 rfl (by decide +kernel)) (
  fm (z_iload_n (j := 1) (by decide +kernel) rfl) (
  fm (z_aload_n (j := 0) (by decide +kernel) rfl) (
  fm (z_getf (idx := 7) awX5 rfl (by decide) wd_4_12 rfl (by decide +kernel)) (
  fm (z_iload_n (j := 1) (by decide +kernel) rfl) (
  fm (z_iald (by decide +kernel)) (
  fm (z_iast (by decide +kernel)) (
  fm (z_iinc (n := 1) (by decide +kernel) (by decide) (by decide)) (
  fm (z_goto (off := (-21)) (by decide +kernel) (by decide)) (
  fm (z_aload_n (j := 0) (by decide +kernel) rfl) (
  fm (z_iconst (n := 1) (by decide +kernel) (by decide)) (
  fm (z_putf (idx := 310) tyX5 tyX5_ok nmX5 awX5 rfl (by decide) wd_4_16 rfl rfl (by decide +kernel) (by decide +kernel)) (
  fm (z_iconst (n := 1) (by decide +kernel) (by decide)) (
  fm (z_iret rfl (by decide +kernel)) (fn))))))))))))))))))))
def kX5_in : Cd := [(0, s_lload 0 1), (1, s_lload 2 2), (2, s_lcmp 3), (3, s_if (fun x => x < 0) 17 6), (6, s_lload 0 7), (7, s_lload 4 9), (9, s_lcmp 10), (10, s_if (fun x => 0 < x) 17 13), (13, s_pushi 1 14), (14, s_goto 18), (17, s_pushi 0 18), (18, s_zret)]
set_option maxRecDepth 20000 in
theorem zX5_in : ∀ q ∈ kX5_in, Snd RX5 cX5_in 6 (some .boolean) (rmM mX5_in) q.1 q.2 :=
  fm (z_lload_n (j := 0) (by decide +kernel) rfl) (
  fm (z_lload_n (j := 2) (by decide +kernel) rfl) (
  fm (z_lcmp (by decide +kernel)) (
  fm (z_if_lt (off := 14) (by decide +kernel) (by decide)) (
  fm (z_lload_n (j := 0) (by decide +kernel) rfl) (
  fm (z_lload (i := 4) (by decide +kernel)) (
  fm (z_lcmp (by decide +kernel)) (
  fm (z_if_gt (off := 7) (by decide +kernel) (by decide)) (
  fm (z_iconst (n := 1) (by decide +kernel) (by decide)) (
  fm (z_goto (off := 4) (by decide +kernel) (by decide)) (
  fm (z_iconst (n := 0) (by decide +kernel) (by decide)) (
  fm (z_zret rfl (by decide +kernel)) (fn))))))))))))
def kX5_isBeside : Cd := [(0, s_aload 0 1), (1, s_iload 1 2), (2, s_pushi 1 3), (3, s_inv mX5_its 5 2 6), (6, s_pushi 12 8), (8, s_bin (fun x y => x + y) 9), (9, s_aload 0 10), (10, s_iload 2 11), (11, s_pushi 1 12), (12, s_inv mX5_its 5 2 15), (15, s_bin (fun x y => x - y) 16), (16, s_pushi 12 18), (18, s_rem 19), (19, s_istore 3 20), (20, s_iload 3 21), (21, s_pushi 1 22), (22, s_icmp (fun x y => x = y) 31 25), (25, s_iload 3 26), (26, s_pushi 11 28), (28, s_icmp (fun x y => x = y) 31 35), (31, s_pushi 1 32), (32, s_goto 36), (35, s_pushi 0 36), (36, s_zret)]
set_option maxRecDepth 20000 in
theorem zX5_isBeside : ∀ q ∈ kX5_isBeside, Snd RX5 cX5_isBeside 4 (some .boolean) (rmM mX5_isBeside) q.1 q.2 :=
  fm (z_aload_n (j := 0) (by decide +kernel) rfl) (
  fm (z_iload_n (j := 1) (by decide +kernel) rfl) (
  fm (z_iconst (n := 1) (by decide +kernel) (by decide)) (
  fm (z_inv (idx := 62) rfl (by decide +kernel) wd_4_98 wd_4_100 ws_30 wd_1_7 wd_4_101 (by decide +kernel) ⟨Nat.le_of_ble_eq_true rfl, Nat.le_of_ble_eq_true rfl⟩) (
  fm (z_bipush (n := 12) (by decide +kernel) (by decide)) (
  fm (z_iadd (by decide +kernel)) (
  fm (z_aload_n (j := 0) (by decide +kernel) rfl) (
  fm (z_iload_n (j := 2) (by decide +kernel) rfl) (
  fm (z_iconst (n := 1) (by decide +kernel) (by decide)) (
  fm (z_inv (idx := 62) rfl (by decide +kernel) wd_4_98 wd_4_100 ws_30 wd_1_7 wd_4_101 (by decide +kernel) ⟨Nat.le_of_ble_eq_true rfl, Nat.le_of_ble_eq_true rfl⟩) (
  fm (z_isub (by decide +kernel)) (
  fm (z_bipush (n := 12) (by decide +kernel) (by decide)) (
  fm (z_irem (by decide +kernel)) (
  fm (z_istore_n (j := 3) (by decide +kernel) rfl (by decide)) (
  fm (z_iload_n (j := 3) (by decide +kernel) rfl) (
  fm (z_iconst (n := 1) (by decide +kernel) (by decide)) (
  fm (z_icmp_eq (off := 9) (by decide +kernel) (by decide)) (
  fm (z_iload_n (j := 3) (by decide +kernel) rfl) (
  fm (z_bipush (n := 11) (by decide +kernel) (by decide)) (
  fm (z_icmp_ne (off := 7) (by decide +kernel) (by decide)) (
  fm (z_iconst (n := 1) (by decide +kernel) (by decide)) (
  fm (z_goto (off := 4) (by decide +kernel) (by decide)) (
  fm (z_iconst (n := 0) (by decide +kernel) (by decide)) (
  fm (z_zret rfl (by decide +kernel)) (fn))))))))))))))))))))))))
def kX5_isDays : Cd := [(0, s_iload 0 1), (1, s_i2l 2), (2, s_pushl 1 3), (3, s_pushl 48 6), (6, s_invS mX5_in 3 9), (9, s_zret)]
set_option maxRecDepth 20000 in
theorem zX5_isDays : ∀ q ∈ kX5_isDays, Snd RX5 cX5_isDays 1 (some .boolean) (rmM mX5_isDays) q.1 q.2 :=
  fm (z_iload_n (j := 0) (by decide +kernel) rfl) (
  fm (z_i2l (by decide +kernel)) (
  fm (z_lconst (n := 1) (by decide +kernel) (by decide)) (
  fm (z_ldc2 (i := 117) (by decide +kernel) wd_4_157) (
  fm (z_invS (idx := 43) (by decide +kernel) wd_4_72 wd_4_73 wd_1_7 wd_4_74 (by decide +kernel) ⟨Nat.le_of_ble_eq_true rfl, Nat.le_of_ble_eq_true rfl⟩) (
  fm (z_zret rfl (by decide +kernel)) (fn))))))
def kX5_isDigit : Cd := [(0, s_iload 0 1), (1, s_i2l 2), (2, s_pushl 48 5), (5, s_pushl 57 8), (8, s_invS mX5_in 3 11), (11, s_zret)]
set_option maxRecDepth 20000 in
theorem zX5_isDigit : ∀ q ∈ kX5_isDigit, Snd RX5 cX5_isDigit 1 (some .boolean) (rmM mX5_isDigit) q.1 q.2 :=
  fm (z_iload_n (j := 0) (by decide +kernel) rfl) (
  fm (z_i2l (by decide +kernel)) (
  fm (z_ldc2 (i := 117) (by decide +kernel) wd_4_157) (
  fm (z_ldc2 (i := 201) (by decide +kernel) wd_5_141) (
  fm (z_invS (idx := 43) (by decide +kernel) wd_4_72 wd_4_73 wd_1_7 wd_4_74 (by decide +kernel) ⟨Nat.le_of_ble_eq_true rfl, Nat.le_of_ble_eq_true rfl⟩) (
  fm (z_zret rfl (by decide +kernel)) (fn))))))
def kX5_isGoing : Cd := [(0, s_aload 0 1), (1, s_iload 1 2), (2, s_pushi 0 3), (3, s_inv mX5_its 5 2 6), (6, s_istore 2 7), (7, s_aload 0 8), (8, s_getf 5 0 11), (11, s_pushi 0 12), (12, s_iald 13), (13, s_pushi 2 14), (14, s_rem 15), (15, s_if (fun x => x = 0) 18 22), (18, s_pushi 1 19), (19, s_goto 23), (22, s_pushi 0 23), (23, s_istore 3 24), (24, s_iload 2 25), (25, s_pushi 2 26), (26, s_icmp (fun x y => x = y) 29 33), (29, s_iload 3 30), (30, s_goto 58), (33, s_iload 2 34), (34, s_pushi 4 35), (35, s_icmp (fun x y => x = y) 38 53), (38, s_iload 3 39), (39, s_if (fun x => x = 0) 57 42), (42, s_aload 0 43), (43, s_getf 5 0 46), (46, s_pushi 0 47), (47, s_iald 48), (48, s_pushi 3 49), (49, s_rem 50), (50, s_if (fun x => x = 0) 53 57), (53, s_pushi 1 54), (54, s_goto 58), (57, s_pushi 0 58), (58, s_zret)]
set_option maxRecDepth 20000 in
theorem zX5_isGoing : ∀ q ∈ kX5_isGoing, Snd RX5 cX5_isGoing 4 (some .boolean) (rmM mX5_isGoing) q.1 q.2 :=
  fm (z_aload_n (j := 0) (by decide +kernel) rfl) (
  fm (z_iload_n (j := 1) (by decide +kernel) rfl) (
  fm (z_iconst (n := 0) (by decide +kernel) (by decide)) (
  fm (z_inv (idx := 62) rfl (by decide +kernel) wd_4_98 wd_4_100 ws_30 wd_1_7 wd_4_101 (by decide +kernel) ⟨Nat.le_of_ble_eq_true rfl, Nat.le_of_ble_eq_true rfl⟩) (
  fm (z_istore_n (j := 2) (by decide +kernel) rfl (by decide)) (
  fm (z_aload_n (j := 0) (by decide +kernel) rfl) (
  fm (z_getf (idx := 7) awX5 rfl (by decide) wd_4_12 rfl (by decide +kernel)) (
  fm (z_iconst (n := 0) (by decide +kernel) (by decide)) (
  fm (z_iald (by decide +kernel)) (
  fm (z_iconst (n := 2) (by decide +kernel) (by decide)) (
  fm (z_irem (by decide +kernel)) (
  fm (z_if_ne (off := 7) (by decide +kernel) (by decide)) (
  fm (z_iconst (n := 1) (by decide +kernel) (by decide)) (
  fm (z_goto (off := 4) (by decide +kernel) (by decide)) (
  fm (z_iconst (n := 0) (by decide +kernel) (by decide)) (
  fm (z_istore_n (j := 3) (by decide +kernel) rfl (by decide)) (
  fm (z_iload_n (j := 2) (by decide +kernel) rfl) (
  fm (z_iconst (n := 2) (by decide +kernel) (by decide)) (
  fm (z_icmp_ne (off := 7) (by decide +kernel) (by decide)) (
  fm (z_iload_n (j := 3) (by decide +kernel) rfl) (
  fm (z_goto (off := 28) (by decide +kernel) (by decide)) (
  fm (z_iload_n (j := 2) (by decide +kernel) rfl) (
  fm (z_iconst (n := 4) (by decide +kernel) (by decide)) (
  fm (z_icmp_ne (off := 18) (by decide +kernel) (by decide)) (
  fm (z_iload_n (j := 3) (by decide +kernel) rfl) (
  fm (z_if_eq (off := 18) (by decide +kernel) (by decide)) (
  fm (z_aload_n (j := 0) (by decide +kernel) rfl) (
  fm (z_getf (idx := 7) awX5 rfl (by decide) wd_4_12 rfl (by decide +kernel)) (
  fm (z_iconst (n := 0) (by decide +kernel) (by decide)) (
  fm (z_iald (by decide +kernel)) (
  fm (z_iconst (n := 3) (by decide +kernel) (by decide)) (
  fm (z_irem (by decide +kernel)) (
  fm (z_if_ne (off := 7) (by decide +kernel) (by decide)) (
  fm (z_iconst (n := 1) (by decide +kernel) (by decide)) (
  fm (z_goto (off := 4) (by decide +kernel) (by decide)) (
  fm (z_iconst (n := 0) (by decide +kernel) (by decide)) (
  fm (z_zret rfl (by decide +kernel)) (fn)))))))))))))))))))))))))))))))))))))
def kX5_isLetter : Cd := [(0, s_iload 0 1), (1, s_i2l 2), (2, s_pushl 97 5), (5, s_pushl 122 8), (8, s_invS mX5_in 3 11), (11, s_zret)]
set_option maxRecDepth 20000 in
theorem zX5_isLetter : ∀ q ∈ kX5_isLetter, Snd RX5 cX5_isLetter 1 (some .boolean) (rmM mX5_isLetter) q.1 q.2 :=
  fm (z_iload_n (j := 0) (by decide +kernel) rfl) (
  fm (z_i2l (by decide +kernel)) (
  fm (z_ldc2 (i := 197) (by decide +kernel) wd_5_136) (
  fm (z_ldc2 (i := 199) (by decide +kernel) wd_5_137) (
  fm (z_invS (idx := 43) (by decide +kernel) wd_4_72 wd_4_73 wd_1_7 wd_4_74 (by decide +kernel) ⟨Nat.le_of_ble_eq_true rfl, Nat.le_of_ble_eq_true rfl⟩) (
  fm (z_zret rfl (by decide +kernel)) (fn))))))
def kX5_isOne : Cd := [(0, s_iload 0 1), (1, s_i2l 2), (2, s_pushl 0 3), (3, s_pushl 3 6), (6, s_invS mX5_in 3 9), (9, s_zret)]
set_option maxRecDepth 20000 in
theorem zX5_isOne : ∀ q ∈ kX5_isOne, Snd RX5 cX5_isOne 1 (some .boolean) (rmM mX5_isOne) q.1 q.2 :=
  fm (z_iload_n (j := 0) (by decide +kernel) rfl) (
  fm (z_i2l (by decide +kernel)) (
  fm (z_lconst (n := 0) (by decide +kernel) (by decide)) (
  fm (z_ldc2 (i := 296) (by decide +kernel) wd_5_213) (
  fm (z_invS (idx := 43) (by decide +kernel) wd_4_72 wd_4_73 wd_1_7 wd_4_74 (by decide +kernel) ⟨Nat.le_of_ble_eq_true rfl, Nat.le_of_ble_eq_true rfl⟩) (
  fm (z_zret rfl (by decide +kernel)) (fn))))))
def kX5_isPlace : Cd := [(0, s_iload 0 1), (1, s_i2l 2), (2, s_pushl 0 3), (3, s_pushl 11 6), (6, s_invS mX5_in 3 9), (9, s_zret)]
set_option maxRecDepth 20000 in
theorem zX5_isPlace : ∀ q ∈ kX5_isPlace, Snd RX5 cX5_isPlace 1 (some .boolean) (rmM mX5_isPlace) q.1 q.2 :=
  fm (z_iload_n (j := 0) (by decide +kernel) rfl) (
  fm (z_i2l (by decide +kernel)) (
  fm (z_lconst (n := 0) (by decide +kernel) (by decide)) (
  fm (z_ldc2 (i := 41) (by decide +kernel) wd_4_71) (
  fm (z_invS (idx := 43) (by decide +kernel) wd_4_72 wd_4_73 wd_1_7 wd_4_74 (by decide +kernel) ⟨Nat.le_of_ble_eq_true rfl, Nat.le_of_ble_eq_true rfl⟩) (
  fm (z_zret rfl (by decide +kernel)) (fn))))))
def kX5_isSo : Cd := [(0, s_pushi 1 1), (1, s_istore 3 2), (2, s_pushi 40 4), (4, s_iload 1 5), (5, s_bin (fun x y => x * y) 6), (6, s_istore 4 8), (8, s_iload 4 10), (10, s_pushi 2 11), (11, s_bin (fun x y => x + y) 12), (12, s_pushi 40 14), (14, s_iload 1 15), (15, s_bin (fun x y => x * y) 16), (16, s_aload 0 17), (17, s_getf 5 14 20), (20, s_iload 1 21), (21, s_iald 22), (22, s_bin (fun x y => x + y) 23), (23, s_icmp (fun x y => y ≤ x) 79 26), (26, s_iload 3 27), (27, s_if (fun x => x = 0) 71 30), (30, s_aload 0 31), (31, s_getf 5 15 34), (34, s_iload 4 36), (36, s_pushi 2 37), (37, s_bin (fun x y => x + y) 38), (38, s_iald 39), (39, s_iload 2 40), (40, s_icmp (fun x y => x = y) 43 67), (43, s_aload 0 44), (44, s_aload 0 45), (45, s_getf 5 15 48), (48, s_iload 4 50), (50, s_iald 51), (51, s_pushi 1 52), (52, s_inv mX5_its 5 2 55), (55, s_aload 0 56), (56, s_getf 5 15 59), (59, s_iload 4 61), (61, s_pushi 1 62), (62, s_bin (fun x y => x + y) 63), (63, s_iald 64), (64, s_icmp (fun x y => x = y) 67 71), (67, s_pushi 1 68), (68, s_goto 72), (71, s_pushi 0 72), (72, s_istore 3 73), (73, s_iinc 4 3 76), (76, s_goto 8), (79, s_iload 3 80), (80, s_zret)]
set_option maxRecDepth 20000 in
theorem zX5_isSo : ∀ q ∈ kX5_isSo, Snd RX5 cX5_isSo 5 (some .boolean) (rmM mX5_isSo) q.1 q.2 :=
  fm (z_iconst (n := 1) (by decide +kernel) (by decide)) (
  fm (z_istore_n (j := 3) (by decide +kernel) rfl (by decide)) (
  fm (z_bipush (n := 40) (by decide +kernel) (by decide)) (
  fm (z_iload_n (j := 1) (by decide +kernel) rfl) (
  fm (z_imul (by decide +kernel)) (
  fm (z_istore (i := 4) (by decide +kernel) (by decide)) (
  fm (z_iload (i := 4) (by decide +kernel)) (
  fm (z_iconst (n := 2) (by decide +kernel) (by decide)) (
  fm (z_iadd (by decide +kernel)) (
  fm (z_bipush (n := 40) (by decide +kernel) (by decide)) (
  fm (z_iload_n (j := 1) (by decide +kernel) rfl) (
  fm (z_imul (by decide +kernel)) (
  fm (z_aload_n (j := 0) (by decide +kernel) rfl) (
  fm (z_getf (idx := 31) awX5 rfl (by decide) wd_4_26 rfl (by decide +kernel)) (
  fm (z_iload_n (j := 1) (by decide +kernel) rfl) (
  fm (z_iald (by decide +kernel)) (
  fm (z_iadd (by decide +kernel)) (
  fm (z_icmp_ge (off := 56) (by decide +kernel) (by decide)) (
  fm (z_iload_n (j := 3) (by decide +kernel) rfl) (
  fm (z_if_eq (off := 44) (by decide +kernel) (by decide)) (
  fm (z_aload_n (j := 0) (by decide +kernel) rfl) (
  fm (z_getf (idx := 34) awX5 rfl (by decide) wd_4_27 rfl (by decide +kernel)) (
  fm (z_iload (i := 4) (by decide +kernel)) (
  fm (z_iconst (n := 2) (by decide +kernel) (by decide)) (
  fm (z_iadd (by decide +kernel)) (
  fm (z_iald (by decide +kernel)) (
  fm (z_iload_n (j := 2) (by decide +kernel) rfl) (
  fm (z_icmp_ne (off := 27) (by decide +kernel) (by decide)) (
  fm (z_aload_n (j := 0) (by decide +kernel) rfl) (
  fm (z_aload_n (j := 0) (by decide +kernel) rfl) (
  fm (z_getf (idx := 34) awX5 rfl (by decide) wd_4_27 rfl (by decide +kernel)) (
  fm (z_iload (i := 4) (by decide +kernel)) (
  fm (z_iald (by decide +kernel)) (
  fm (z_iconst (n := 1) (by decide +kernel) (by decide)) (
  fm (z_inv (idx := 62) rfl (by decide +kernel) wd_4_98 wd_4_100 ws_30 wd_1_7 wd_4_101 (by decide +kernel) ⟨Nat.le_of_ble_eq_true rfl, Nat.le_of_ble_eq_true rfl⟩) (
  fm (z_aload_n (j := 0) (by decide +kernel) rfl) (
  fm (z_getf (idx := 34) awX5 rfl (by decide) wd_4_27 rfl (by decide +kernel)) (
  fm (z_iload (i := 4) (by decide +kernel)) (
  fm (z_iconst (n := 1) (by decide +kernel) (by decide)) (
  fm (z_iadd (by decide +kernel)) (
  fm (z_iald (by decide +kernel)) (
  fm (z_icmp_ne (off := 7) (by decide +kernel) (by decide)) (
  fm (z_iconst (n := 1) (by decide +kernel) (by decide)) (
  fm (z_goto (off := 4) (by decide +kernel) (by decide)) (
  fm (z_iconst (n := 0) (by decide +kernel) (by decide)) (
  fm (z_istore_n (j := 3) (by decide +kernel) rfl (by decide)) (
  fm (z_iinc (n := 3) (by decide +kernel) (by decide) (by decide)) (
  fm (z_goto (off := (-68)) (by decide +kernel) (by decide)) (
  fm (z_iload_n (j := 3) (by decide +kernel) rfl) (
  fm (z_zret rfl (by decide +kernel)) (fn))))))))))))))))))))))))))))))))))))))))))))))))))
def kX5_isSpan : Cd := [(0, s_iload 0 1), (1, s_i2l 2), (2, s_pushl 0 3), (3, s_pushl 96 6), (6, s_invS mX5_in 3 9), (9, s_zret)]
set_option maxRecDepth 20000 in
theorem zX5_isSpan : ∀ q ∈ kX5_isSpan, Snd RX5 cX5_isSpan 1 (some .boolean) (rmM mX5_isSpan) q.1 q.2 :=
  fm (z_iload_n (j := 0) (by decide +kernel) rfl) (
  fm (z_i2l (by decide +kernel)) (
  fm (z_lconst (n := 0) (by decide +kernel) (by decide)) (
  fm (z_ldc2 (i := 125) (by decide +kernel) wd_4_199) (
  fm (z_invS (idx := 43) (by decide +kernel) wd_4_72 wd_4_73 wd_1_7 wd_4_74 (by decide +kernel) ⟨Nat.le_of_ble_eq_true rfl, Nat.le_of_ble_eq_true rfl⟩) (
  fm (z_zret rfl (by decide +kernel)) (fn))))))
def kX5_isStall : Cd := [(0, s_iload 1 1), (1, s_i2l 2), (2, s_pushl 0 3), (3, s_aload 0 4), (4, s_getf 5 0 7), (7, s_pushi 1 8), (8, s_iald 9), (9, s_pushi 1 10), (10, s_bin (fun x y => x - y) 11), (11, s_i2l 12), (12, s_invS mX5_in 3 15), (15, s_zret)]
set_option maxRecDepth 20000 in
theorem zX5_isStall : ∀ q ∈ kX5_isStall, Snd RX5 cX5_isStall 2 (some .boolean) (rmM mX5_isStall) q.1 q.2 :=
  fm (z_iload_n (j := 1) (by decide +kernel) rfl) (
  fm (z_i2l (by decide +kernel)) (
  fm (z_lconst (n := 0) (by decide +kernel) (by decide)) (
  fm (z_aload_n (j := 0) (by decide +kernel) rfl) (
  fm (z_getf (idx := 7) awX5 rfl (by decide) wd_4_12 rfl (by decide +kernel)) (
  fm (z_iconst (n := 1) (by decide +kernel) (by decide)) (
  fm (z_iald (by decide +kernel)) (
  fm (z_iconst (n := 1) (by decide +kernel) (by decide)) (
  fm (z_isub (by decide +kernel)) (
  fm (z_i2l (by decide +kernel)) (
  fm (z_invS (idx := 43) (by decide +kernel) wd_4_72 wd_4_73 wd_1_7 wd_4_74 (by decide +kernel) ⟨Nat.le_of_ble_eq_true rfl, Nat.le_of_ble_eq_true rfl⟩) (
  fm (z_zret rfl (by decide +kernel)) (fn))))))))))))
def kX5_isTooLate : Cd := [(0, s_aload 0 1), (1, s_getf 5 0 4), (4, s_pushi 0 5), (5, s_iald 6), (6, s_iload 1 7), (7, s_bin (fun x y => x + y) 8), (8, s_pushi 999 11), (11, s_icmp (fun x y => x ≤ y) 18 14), (14, s_pushi 1 15), (15, s_goto 19), (18, s_pushi 0 19), (19, s_zret)]
set_option maxRecDepth 20000 in
theorem zX5_isTooLate : ∀ q ∈ kX5_isTooLate, Snd RX5 cX5_isTooLate 2 (some .boolean) (rmM mX5_isTooLate) q.1 q.2 :=
  fm (z_aload_n (j := 0) (by decide +kernel) rfl) (
  fm (z_getf (idx := 7) awX5 rfl (by decide) wd_4_12 rfl (by decide +kernel)) (
  fm (z_iconst (n := 0) (by decide +kernel) (by decide)) (
  fm (z_iald (by decide +kernel)) (
  fm (z_iload_n (j := 1) (by decide +kernel) rfl) (
  fm (z_iadd (by decide +kernel)) (
  fm (z_sipush (n := 999) (by decide +kernel) (by decide)) (
  fm (z_icmp_le (off := 7) (by decide +kernel) (by decide)) (
  fm (z_iconst (n := 1) (by decide +kernel) (by decide)) (
  fm (z_goto (off := 4) (by decide +kernel) (by decide)) (
  fm (z_iconst (n := 0) (by decide +kernel) (by decide)) (
  fm (z_zret rfl (by decide +kernel)) (fn))))))))))))
def kX5_isTwo : Cd := [(0, s_aload 0 1), (1, s_iload 1 2), (2, s_inv mX5_isStall 5 1 5), (5, s_if (fun x => x = 0) 25 8), (8, s_aload 0 9), (9, s_iload 2 10), (10, s_inv mX5_isStall 5 1 13), (13, s_if (fun x => x = 0) 25 16), (16, s_iload 1 17), (17, s_iload 2 18), (18, s_icmp (fun x y => x = y) 25 21), (21, s_pushi 1 22), (22, s_goto 26), (25, s_pushi 0 26), (26, s_zret)]
set_option maxRecDepth 20000 in
theorem zX5_isTwo : ∀ q ∈ kX5_isTwo, Snd RX5 cX5_isTwo 3 (some .boolean) (rmM mX5_isTwo) q.1 q.2 :=
  fm (z_aload_n (j := 0) (by decide +kernel) rfl) (
  fm (z_iload_n (j := 1) (by decide +kernel) rfl) (
  fm (z_inv (idx := 76) rfl (by decide +kernel) wd_4_115 wd_4_117 ws_32 wd_1_7 wd_4_118 (by decide +kernel) ⟨Nat.le_of_ble_eq_true rfl, Nat.le_of_ble_eq_true rfl⟩) (
  fm (z_if_eq (off := 20) (by decide +kernel) (by decide)) (
  fm (z_aload_n (j := 0) (by decide +kernel) rfl) (
  fm (z_iload_n (j := 2) (by decide +kernel) rfl) (
  fm (z_inv (idx := 76) rfl (by decide +kernel) wd_4_115 wd_4_117 ws_32 wd_1_7 wd_4_118 (by decide +kernel) ⟨Nat.le_of_ble_eq_true rfl, Nat.le_of_ble_eq_true rfl⟩) (
  fm (z_if_eq (off := 12) (by decide +kernel) (by decide)) (
  fm (z_iload_n (j := 1) (by decide +kernel) rfl) (
  fm (z_iload_n (j := 2) (by decide +kernel) rfl) (
  fm (z_icmp_eq (off := 7) (by decide +kernel) (by decide)) (
  fm (z_iconst (n := 1) (by decide +kernel) (by decide)) (
  fm (z_goto (off := 4) (by decide +kernel) (by decide)) (
  fm (z_iconst (n := 0) (by decide +kernel) (by decide)) (
  fm (z_zret rfl (by decide +kernel)) (fn)))))))))))))))
def kX5_item : Cd := [(0, s_aload 0 1), (1, s_inv mX5_kindHere 5 0 4), (4, s_istore 1 5), (5, s_aload 0 6), (6, s_inv mX5_word 5 0 9), (9, s_pushl 20186245 12), (12, s_lcmp 13), (13, s_if (fun x => x = 0) 16 20), (16, s_pushi 1 17), (17, s_goto 21), (20, s_pushi 0 21), (21, s_istore 2 22), (22, s_iload 1 23), (23, s_if (fun x => x < 0) 34 26), (26, s_aload 0 27), (27, s_iload 1 28), (28, s_inv mX5_stallItem 5 1 31), (31, s_goto 146), (34, s_aload 0 35), (35, s_inv mX5_word 5 0 38), (38, s_pushl 748267155 41), (41, s_lcmp 42), (42, s_if (fun x => x = 0) 45 52), (45, s_aload 0 46), (46, s_inv mX5_visitsItem 5 0 49), (49, s_goto 146), (52, s_iload 2 53), (53, s_if (fun x => x = 0) 56 67), (56, s_aload 0 57), (57, s_inv mX5_word 5 0 60), (60, s_pushl 20142 63), (63, s_lcmp 64), (64, s_if (fun x => x = 0) 67 109), (67, s_aload 0 68), (68, s_pushi 1 69), (69, s_pushi 0 70), (70, s_pushi 11 72), (72, s_pushi 0 73), (73, s_inv mX5_perhaps 5 4 76), (76, s_istore 3 77), (77, s_aload 0 78), (78, s_getf 5 0 81), (81, s_pushi 16 83), (83, s_aload 0 84), (84, s_getf 5 12 87), (87, s_if (fun x => x = 0) 94 90), (90, s_pushi 0 91), (91, s_goto 95), (94, s_iload 3 95), (95, s_bin (fun x y => x + y) 96), (96, s_iload 2 97), (97, s_if (fun x => x = 0) 104 100), (100, s_pushi 1 101), (101, s_goto 105), (104, s_pushi 0 105), (105, s_iast 106), (106, s_goto 146), (109, s_aload 0 110), (110, s_aload 0 111), (111, s_inv mX5_word 5 0 114), (114, s_pushl 654910919 117), (117, s_lcmp 118), (118, s_if (fun x => x = 0) 121 125), (121, s_pushi 1 122), (122, s_goto 126), (125, s_pushi 0 126), (126, s_inv mX5_needs 5 1 129), (129, s_aload 0 130), (130, s_pushi 0 131), (131, s_pushi 11 133), (133, s_inv mX5_number 5 2 136), (136, s_aload 0 137), (137, s_getf 5 0 140), (140, s_pushi 2 141), (141, s_aload 0 142), (142, s_getf 5 11 145), (145, s_iast 146), (146, s_vret)]
set_option maxRecDepth 20000 in
theorem zX5_item : ∀ q ∈ kX5_item, Snd RX5 cX5_item 4 none (rmM mX5_item) q.1 q.2 :=
  fm (z_aload_n (j := 0) (by decide +kernel) rfl) (
  fm (z_inv (idx := 271) rfl (by decide +kernel) wd_5_146 wd_5_148 ws_62 wd_1_7 wd_5_149 (by decide +kernel) ⟨Nat.le_of_ble_eq_true rfl, Nat.le_of_ble_eq_true rfl⟩) (
  fm (z_istore_n (j := 1) (by decide +kernel) rfl (by decide)) (
  fm (z_aload_n (j := 0) (by decide +kernel) rfl) (
  fm (z_inv (idx := 236) rfl (by decide +kernel) wd_5_150 wd_5_152 ws_63 wd_1_7 wd_5_153 (by decide +kernel) ⟨Nat.le_of_ble_eq_true rfl, Nat.le_of_ble_eq_true rfl⟩) (
  fm (z_ldc2 (i := 274) (by decide +kernel) wd_5_163) (
  fm (z_lcmp (by decide +kernel)) (
  fm (z_if_ne (off := 7) (by decide +kernel) (by decide)) (
  fm (z_iconst (n := 1) (by decide +kernel) (by decide)) (
  fm (z_goto (off := 4) (by decide +kernel) (by decide)) (
  fm (z_iconst (n := 0) (by decide +kernel) (by decide)) (
  fm (z_istore_n (j := 2) (by decide +kernel) rfl (by decide)) (
  fm (z_iload_n (j := 1) (by decide +kernel) rfl) (
  fm (z_if_lt (off := 11) (by decide +kernel) (by decide)) (
  fm (z_aload_n (j := 0) (by decide +kernel) rfl) (
  fm (z_iload_n (j := 1) (by decide +kernel) rfl) (
  fm (z_inv (idx := 276) rfl (by decide +kernel) wd_5_164 wd_5_166 ws_64 wd_1_7 wd_5_167 (by decide +kernel) ⟨Nat.le_of_ble_eq_true rfl, Nat.le_of_ble_eq_true rfl⟩) (
  fm (z_goto (off := 115) (by decide +kernel) (by decide)) (
  fm (z_aload_n (j := 0) (by decide +kernel) rfl) (
  fm (z_inv (idx := 236) rfl (by decide +kernel) wd_5_150 wd_5_152 ws_63 wd_1_7 wd_5_153 (by decide +kernel) ⟨Nat.le_of_ble_eq_true rfl, Nat.le_of_ble_eq_true rfl⟩) (
  fm (z_ldc2 (i := 280) (by decide +kernel) wd_5_186) (
  fm (z_lcmp (by decide +kernel)) (
  fm (z_if_ne (off := 10) (by decide +kernel) (by decide)) (
  fm (z_aload_n (j := 0) (by decide +kernel) rfl) (
  fm (z_inv (idx := 282) rfl (by decide +kernel) wd_5_187 wd_5_189 ws_69 wd_1_7 wd_5_190 (by decide +kernel) ⟨Nat.le_of_ble_eq_true rfl, Nat.le_of_ble_eq_true rfl⟩) (
  fm (z_goto (off := 97) (by decide +kernel) (by decide)) (
  fm (z_iload_n (j := 2) (by decide +kernel) rfl) (
  fm (z_if_ne (off := 14) (by decide +kernel) (by decide)) (
  fm (z_aload_n (j := 0) (by decide +kernel) rfl) (
  fm (z_inv (idx := 236) rfl (by decide +kernel) wd_5_150 wd_5_152 ws_63 wd_1_7 wd_5_153 (by decide +kernel) ⟨Nat.le_of_ble_eq_true rfl, Nat.le_of_ble_eq_true rfl⟩) (
  fm (z_ldc2 (i := 285) (by decide +kernel) wd_5_193) (
  fm (z_lcmp (by decide +kernel)) (
  fm (z_if_ne (off := 45) (by decide +kernel) (by decide)) (
  fm (z_aload_n (j := 0) (by decide +kernel) rfl) (
  fm (z_iconst (n := 1) (by decide +kernel) (by decide)) (
  fm (z_iconst (n := 0) (by decide +kernel) (by decide)) (
  fm (z_bipush (n := 11) (by decide +kernel) (by decide)) (
  fm (z_iconst (n := 0) (by decide +kernel) (by decide)) (
  fm (z_inv (idx := 263) rfl (by decide +kernel) wd_5_178 wd_5_180 ws_67 wd_1_7 wd_5_181 (by decide +kernel) ⟨Nat.le_of_ble_eq_true rfl, Nat.le_of_ble_eq_true rfl⟩) (
  fm (z_istore_n (j := 3) (by decide +kernel) rfl (by decide)) (
  fm (z_aload_n (j := 0) (by decide +kernel) rfl) (
  fm (z_getf (idx := 7) awX5 rfl (by decide) wd_4_12 rfl (by decide +kernel)) (
  fm (z_bipush (n := 16) (by decide +kernel) (by decide)) (
  fm (z_aload_n (j := 0) (by decide +kernel) rfl) (
  fm (z_getf (idx := 218) awX5 rfl (by decide) wd_4_24 rfl (by decide +kernel)) (
  fm (z_if_eq (off := 7) (by decide +kernel) (by decide)) (
  fm (z_iconst (n := 0) (by decide +kernel) (by decide)) (
  fm (z_goto (off := 4) (by decide +kernel) (by decide)) (
  fm (z_iload_n (j := 3) (by decide +kernel) rfl) (
  fm (z_iadd (by decide +kernel)) (
  fm (z_iload_n (j := 2) (by decide +kernel) rfl) (
  fm (z_if_eq (off := 7) (by decide +kernel) (by decide)) (
  fm (z_iconst (n := 1) (by decide +kernel) (by decide)) (
  fm (z_goto (off := 4) (by decide +kernel) (by decide)) (
  fm (z_iconst (n := 0) (by decide +kernel) (by decide)) (
  fm (z_iast (by decide +kernel)) (
  fm (z_goto (off := 40) (by decide +kernel) (by decide)) (
  fm (z_aload_n (j := 0) (by decide +kernel) rfl) (
  fm (z_aload_n (j := 0) (by decide +kernel) rfl) (
  fm (z_inv (idx := 236) rfl (by decide +kernel) wd_5_150 wd_5_152 ws_63 wd_1_7 wd_5_153 (by decide +kernel) ⟨Nat.le_of_ble_eq_true rfl, Nat.le_of_ble_eq_true rfl⟩) (
  fm (z_ldc2 (i := 287) (by decide +kernel) wd_5_194) (
  fm (z_lcmp (by decide +kernel)) (
  fm (z_if_ne (off := 7) (by decide +kernel) (by decide)) (
  fm (z_iconst (n := 1) (by decide +kernel) (by decide)) (
  fm (z_goto (off := 4) (by decide +kernel) (by decide)) (
  fm (z_iconst (n := 0) (by decide +kernel) (by decide)) (
  fm (z_inv (idx := 232) rfl (by decide +kernel) wd_5_168 wd_5_170 ws_65 wd_1_7 wd_5_171 (by decide +kernel) ⟨Nat.le_of_ble_eq_true rfl, Nat.le_of_ble_eq_true rfl⟩) (
  fm (z_aload_n (j := 0) (by decide +kernel) rfl) (
  fm (z_iconst (n := 0) (by decide +kernel) (by decide)) (
  fm (z_bipush (n := 11) (by decide +kernel) (by decide)) (
  fm (z_inv (idx := 254) rfl (by decide +kernel) wd_5_182 wd_5_184 ws_68 wd_1_7 wd_5_185 (by decide +kernel) ⟨Nat.le_of_ble_eq_true rfl, Nat.le_of_ble_eq_true rfl⟩) (
  fm (z_aload_n (j := 0) (by decide +kernel) rfl) (
  fm (z_getf (idx := 7) awX5 rfl (by decide) wd_4_12 rfl (by decide +kernel)) (
  fm (z_iconst (n := 2) (by decide +kernel) (by decide)) (
  fm (z_aload_n (j := 0) (by decide +kernel) rfl) (
  fm (z_getf (idx := 229) awX5 rfl (by decide) wd_4_23 rfl (by decide +kernel)) (
  fm (z_iast (by decide +kernel)) (
  fm (z_vret rfl (by decide +kernel)) (fn))))))))))))))))))))))))))))))))))))))))))))))))))))))))))))))))))))))))))))))
def kX5_its : Cd := [(0, s_aload 0 1), (1, s_getf 5 0 4), (4, s_iload 1 5), (5, s_iload 2 6), (6, s_invS mX5_at 2 9), (9, s_iald 10), (10, s_iret)]
set_option maxRecDepth 20000 in
theorem zX5_its : ∀ q ∈ kX5_its, Snd RX5 cX5_its 3 (some .int) (rmM mX5_its) q.1 q.2 :=
  fm (z_aload_n (j := 0) (by decide +kernel) rfl) (
  fm (z_getf (idx := 7) awX5 rfl (by decide) wd_4_12 rfl (by decide +kernel)) (
  fm (z_iload_n (j := 1) (by decide +kernel) rfl) (
  fm (z_iload_n (j := 2) (by decide +kernel) rfl) (
  fm (z_invS (idx := 48) (by decide +kernel) wd_4_102 wd_4_103 wd_1_7 wd_4_104 (by decide +kernel) ⟨Nat.le_of_ble_eq_true rfl, Nat.le_of_ble_eq_true rfl⟩) (
  fm (z_iald (by decide +kernel)) (
  fm (z_iret rfl (by decide +kernel)) (fn)))))))
def kX5_judge : Cd := [(0, s_aload 0 1), (1, s_iload 1 2), (2, s_inv mX5_wrong 5 1 5), (5, s_istore 3 6), (6, s_iload 3 7), (7, s_if (fun x => x = 0) 10 37), (10, s_iload 2 11), (11, s_invS mX5_isSpan 1 14), (14, s_if (fun x => x = 0) 17 22), (17, s_pushi (-1000001) 19), (19, s_goto 36), (22, s_aload 0 23), (23, s_iload 2 24), (24, s_inv mX5_isTooLate 5 1 27), (27, s_if (fun x => x = 0) 35 30), (30, s_pushi (-1000005) 32), (32, s_goto 36), (35, s_pushi 0 36), (36, s_istore 3 37), (37, s_iload 3 38), (38, s_if (fun x => x = 0) 47 41), (41, s_aload 0 42), (42, s_iload 3 43), (43, s_inv mX5_finds 5 1 46), (46, s_iret), (47, s_aload 0 48), (48, s_inv mX5_saves 5 0 51), (51, s_aload 0 52), (52, s_iload 2 53), (53, s_inv mX5_hoursGo 5 1 56), (56, s_istore 4 58), (58, s_pushi 0 59), (59, s_istore 5 61), (61, s_iload 5 63), (63, s_aload 0 64), (64, s_getf 5 14 67), (67, s_iload 1 68), (68, s_iald 69), (69, s_icmp (fun x y => y ≤ x) 106 72), (72, s_iload 5 74), (74, s_pushi 12 76), (76, s_icmp (fun x y => y ≤ x) 106 79), (79, s_aload 0 80), (80, s_getf 5 15 83), (83, s_pushi 40 85), (85, s_iload 1 86), (86, s_bin (fun x y => x * y) 87), (87, s_iload 5 89), (89, s_bin (fun x y => x + y) 90), (90, s_iald 91), (91, s_aload 0 92), (92, s_iload 5 94), (94, s_inv mX5_stallAt 5 1 97), (97, s_icmp (fun x y => x = y) 100 106), (100, s_iinc 5 1 103), (103, s_goto 61), (106, s_aload 0 107), (107, s_inv mX5_putsBack 5 0 110), (110, s_iload 5 112), (112, s_pushi 12 114), (114, s_icmp (fun x y => x = y) 117 132), (117, s_aload 0 118), (118, s_getf 5 14 121), (121, s_iload 1 122), (122, s_iald 123), (123, s_pushi 12 125), (125, s_icmp (fun x y => x = y) 128 132), (128, s_pushi 0 129), (129, s_goto 136), (132, s_pushi 1 133), (133, s_iload 5 135), (135, s_bin (fun x y => x + y) 136), (136, s_iret)]
set_option maxRecDepth 20000 in
theorem zX5_judge : ∀ q ∈ kX5_judge, Snd RX5 cX5_judge 6 (some .int) (rmM mX5_judge) q.1 q.2 :=
  fm (z_aload_n (j := 0) (by decide +kernel) rfl) (
  fm (z_iload_n (j := 1) (by decide +kernel) rfl) (
  fm (z_inv (idx := 301) rfl (by decide +kernel) wd_5_218 wd_5_220 ws_70 wd_1_7 wd_5_221 (by decide +kernel) ⟨Nat.le_of_ble_eq_true rfl, Nat.le_of_ble_eq_true rfl⟩) (
  fm (z_istore_n (j := 3) (by decide +kernel) rfl (by decide)) (
  fm (z_iload_n (j := 3) (by decide +kernel) rfl) (
  fm (z_if_ne (off := 30) (by decide +kernel) (by decide)) (
  fm (z_iload_n (j := 2) (by decide +kernel) rfl) (
  fm (z_invS (idx := 127) (by decide +kernel) wd_4_196 wd_4_197 wd_1_7 wd_4_198 (by decide +kernel) ⟨Nat.le_of_ble_eq_true rfl, Nat.le_of_ble_eq_true rfl⟩) (
  fm (z_if_ne (off := 8) (by decide +kernel) (by decide)) (
  fm (z_ldc (i := 40) (by decide +kernel) wd_4_76) (
  fm (z_goto (off := 17) (by decide +kernel) (by decide)) (
  fm (z_aload_n (j := 0) (by decide +kernel) rfl) (
  fm (z_iload_n (j := 2) (by decide +kernel) rfl) (
  fm (z_inv (idx := 119) rfl (by decide +kernel) wd_4_158 wd_4_160 ws_37 wd_1_7 wd_4_161 (by decide +kernel) ⟨Nat.le_of_ble_eq_true rfl, Nat.le_of_ble_eq_true rfl⟩) (
  fm (z_if_eq (off := 8) (by decide +kernel) (by decide)) (
  fm (z_ldc (i := 70) (by decide +kernel) wd_4_105) (
  fm (z_goto (off := 4) (by decide +kernel) (by decide)) (
  fm (z_iconst (n := 0) (by decide +kernel) (by decide)) (
  fm (z_istore_n (j := 3) (by decide +kernel) rfl (by decide)) (
  fm (z_iload_n (j := 3) (by decide +kernel) rfl) (
  fm (z_if_eq (off := 9) (by decide +kernel) (by decide)) (
  fm (z_aload_n (j := 0) (by decide +kernel) rfl) (
  fm (z_iload_n (j := 3) (by decide +kernel) rfl) (
  fm (z_inv (idx := 58) rfl (by decide +kernel) wd_4_77 wd_4_79 ws_28 wd_1_7 wd_4_80 (by decide +kernel) ⟨Nat.le_of_ble_eq_true rfl, Nat.le_of_ble_eq_true rfl⟩) (
  fm (z_iret rfl (by decide +kernel)) (
  fm (z_aload_n (j := 0) (by decide +kernel) rfl) (
  fm (z_inv (idx := 130) rfl (by decide +kernel) wd_4_200 wd_4_202 ws_43 wd_1_7 wd_4_203 (by decide +kernel) ⟨Nat.le_of_ble_eq_true rfl, Nat.le_of_ble_eq_true rfl⟩) (
  fm (z_aload_n (j := 0) (by decide +kernel) rfl) (
  fm (z_iload_n (j := 2) (by decide +kernel) rfl) (
  fm (z_inv (idx := 122) rfl (by decide +kernel) wd_4_162 wd_4_164 ws_38 wd_1_7 wd_4_165 (by decide +kernel) ⟨Nat.le_of_ble_eq_true rfl, Nat.le_of_ble_eq_true rfl⟩) (
  fm (z_istore (i := 4) (by decide +kernel) (by decide)) (
  fm (z_iconst (n := 0) (by decide +kernel) (by decide)) (
  fm (z_istore (i := 5) (by decide +kernel) (by decide)) (
  fm (z_iload (i := 5) (by decide +kernel)) (
  fm (z_aload_n (j := 0) (by decide +kernel) rfl) (
  fm (z_getf (idx := 31) awX5 rfl (by decide) wd_4_26 rfl (by decide +kernel)) (
  fm (z_iload_n (j := 1) (by decide +kernel) rfl) (
  fm (z_iald (by decide +kernel)) (
  fm (z_icmp_ge (off := 37) (by decide +kernel) (by decide)) (
  fm (z_iload (i := 5) (by decide +kernel)) (
  fm (z_bipush (n := 12) (by decide +kernel) (by decide)) (
  fm (z_icmp_ge (off := 30) (by decide +kernel) (by decide)) (
  fm (z_aload_n (j := 0) (by decide +kernel) rfl) (
  fm (z_getf (idx := 34) awX5 rfl (by decide) wd_4_27 rfl (by decide +kernel)) (
  fm (z_bipush (n := 40) (by decide +kernel) (by decide)) (
  fm (z_iload_n (j := 1) (by decide +kernel) rfl) (
  fm (z_imul (by decide +kernel)) (
  fm (z_iload (i := 5) (by decide +kernel)) (
  fm (z_iadd (by decide +kernel)) (
  fm (z_iald (by decide +kernel)) (
  fm (z_aload_n (j := 0) (by decide +kernel) rfl) (
  fm (z_iload (i := 5) (by decide +kernel)) (
  fm (z_inv (idx := 67) rfl (by decide +kernel) wd_4_94 wd_4_96 ws_29 wd_1_7 wd_4_97 (by decide +kernel) ⟨Nat.le_of_ble_eq_true rfl, Nat.le_of_ble_eq_true rfl⟩) (
  fm (z_icmp_ne (off := 9) (by decide +kernel) (by decide)) (
  fm (z_iinc (n := 1) (by decide +kernel) (by decide) (by decide)) (
  fm (z_goto (off := (-42)) (by decide +kernel) (by decide)) (
  fm (z_aload_n (j := 0) (by decide +kernel) rfl) (
  fm (z_inv (idx := 142) rfl (by decide +kernel) wd_4_216 wd_4_218 ws_47 wd_1_7 wd_4_219 (by decide +kernel) ⟨Nat.le_of_ble_eq_true rfl, Nat.le_of_ble_eq_true rfl⟩) (
  fm (z_iload (i := 5) (by decide +kernel)) (
  fm (z_bipush (n := 12) (by decide +kernel) (by decide)) (
  fm (z_icmp_ne (off := 18) (by decide +kernel) (by decide)) (
  fm (z_aload_n (j := 0) (by decide +kernel) rfl) (
  fm (z_getf (idx := 31) awX5 rfl (by decide) wd_4_26 rfl (by decide +kernel)) (
  fm (z_iload_n (j := 1) (by decide +kernel) rfl) (
  fm (z_iald (by decide +kernel)) (
  fm (z_bipush (n := 12) (by decide +kernel) (by decide)) (
  fm (z_icmp_ne (off := 7) (by decide +kernel) (by decide)) (
  fm (z_iconst (n := 0) (by decide +kernel) (by decide)) (
  fm (z_goto (off := 7) (by decide +kernel) (by decide)) (
  fm (z_iconst (n := 1) (by decide +kernel) (by decide)) (
  fm (z_iload (i := 5) (by decide +kernel)) (
  fm (z_iadd (by decide +kernel)) (
  fm (z_iret rfl (by decide +kernel)) (fn)))))))))))))))))))))))))))))))))))))))))))))))))))))))))))))))))))))))))
def kX5_kindHere : Cd := [(0, s_aload 0 1), (1, s_inv mX5_word 5 0 4), (4, s_lstore 1 5), (5, s_lload 1 6), (6, s_pushl 20579724 9), (9, s_lcmp 10), (10, s_if (fun x => x = 0) 13 17), (13, s_pushi 0 14), (14, s_goto 91), (17, s_lload 1 18), (18, s_pushl 150636933 21), (21, s_lcmp 22), (22, s_if (fun x => x = 0) 25 29), (25, s_pushi 1 26), (26, s_goto 91), (29, s_lload 1 30), (30, s_pushl 299397 33), (33, s_lcmp 34), (34, s_if (fun x => x = 0) 37 41), (37, s_pushi 2 38), (38, s_goto 91), (41, s_lload 1 42), (42, s_pushl 645959844 45), (45, s_lcmp 46), (46, s_if (fun x => x = 0) 49 53), (49, s_pushi 3 50), (50, s_goto 91), (53, s_lload 1 54), (54, s_pushl 395097 57), (57, s_lcmp 58), (58, s_if (fun x => x = 0) 61 65), (61, s_pushi 4 62), (62, s_goto 91), (65, s_lload 1 66), (66, s_pushl 2500036 69), (69, s_lcmp 70), (70, s_if (fun x => x = 0) 73 77), (73, s_pushi 5 74), (74, s_goto 91), (77, s_lload 1 78), (78, s_pushl 109221477 81), (81, s_lcmp 82), (82, s_if (fun x => x = 0) 85 90), (85, s_pushi 6 87), (87, s_goto 91), (90, s_pushi (-1) 91), (91, s_iret)]
set_option maxRecDepth 20000 in
theorem zX5_kindHere : ∀ q ∈ kX5_kindHere, Snd RX5 cX5_kindHere 3 (some .int) (rmM mX5_kindHere) q.1 q.2 :=
  fm (z_aload_n (j := 0) (by decide +kernel) rfl) (
  fm (z_inv (idx := 236) rfl (by decide +kernel) wd_5_150 wd_5_152 ws_63 wd_1_7 wd_5_153 (by decide +kernel) ⟨Nat.le_of_ble_eq_true rfl, Nat.le_of_ble_eq_true rfl⟩) (
  fm (z_lstore_n (j := 1) (by decide +kernel) rfl (by decide)) (
  fm (z_lload_n (j := 1) (by decide +kernel) rfl) (
  fm (z_ldc2 (i := 240) (by decide +kernel) wd_5_156) (
  fm (z_lcmp (by decide +kernel)) (
  fm (z_if_ne (off := 7) (by decide +kernel) (by decide)) (
  fm (z_iconst (n := 0) (by decide +kernel) (by decide)) (
  fm (z_goto (off := 77) (by decide +kernel) (by decide)) (
  fm (z_lload_n (j := 1) (by decide +kernel) rfl) (
  fm (z_ldc2 (i := 242) (by decide +kernel) wd_5_157) (
  fm (z_lcmp (by decide +kernel)) (
  fm (z_if_ne (off := 7) (by decide +kernel) (by decide)) (
  fm (z_iconst (n := 1) (by decide +kernel) (by decide)) (
  fm (z_goto (off := 65) (by decide +kernel) (by decide)) (
  fm (z_lload_n (j := 1) (by decide +kernel) rfl) (
  fm (z_ldc2 (i := 244) (by decide +kernel) wd_5_158) (
  fm (z_lcmp (by decide +kernel)) (
  fm (z_if_ne (off := 7) (by decide +kernel) (by decide)) (
  fm (z_iconst (n := 2) (by decide +kernel) (by decide)) (
  fm (z_goto (off := 53) (by decide +kernel) (by decide)) (
  fm (z_lload_n (j := 1) (by decide +kernel) rfl) (
  fm (z_ldc2 (i := 246) (by decide +kernel) wd_5_159) (
  fm (z_lcmp (by decide +kernel)) (
  fm (z_if_ne (off := 7) (by decide +kernel) (by decide)) (
  fm (z_iconst (n := 3) (by decide +kernel) (by decide)) (
  fm (z_goto (off := 41) (by decide +kernel) (by decide)) (
  fm (z_lload_n (j := 1) (by decide +kernel) rfl) (
  fm (z_ldc2 (i := 248) (by decide +kernel) wd_5_160) (
  fm (z_lcmp (by decide +kernel)) (
  fm (z_if_ne (off := 7) (by decide +kernel) (by decide)) (
  fm (z_iconst (n := 4) (by decide +kernel) (by decide)) (
  fm (z_goto (off := 29) (by decide +kernel) (by decide)) (
  fm (z_lload_n (j := 1) (by decide +kernel) rfl) (
  fm (z_ldc2 (i := 250) (by decide +kernel) wd_5_161) (
  fm (z_lcmp (by decide +kernel)) (
  fm (z_if_ne (off := 7) (by decide +kernel) (by decide)) (
  fm (z_iconst (n := 5) (by decide +kernel) (by decide)) (
  fm (z_goto (off := 17) (by decide +kernel) (by decide)) (
  fm (z_lload_n (j := 1) (by decide +kernel) rfl) (
  fm (z_ldc2 (i := 252) (by decide +kernel) wd_5_162) (
  fm (z_lcmp (by decide +kernel)) (
  fm (z_if_ne (off := 8) (by decide +kernel) (by decide)) (
  fm (z_bipush (n := 6) (by decide +kernel) (by decide)) (
  fm (z_goto (off := 4) (by decide +kernel) (by decide)) (
  fm (z_iconst (n := (-1)) (by decide +kernel) (by decide)) (
  fm (z_iret rfl (by decide +kernel)) (fn)))))))))))))))))))))))))))))))))))))))))))))))
def kX5_lays : Cd := [(0, s_aload 0 1), (1, s_inv mX5_putsBack 5 0 4), (4, s_pushi 0 5), (5, s_istore 1 6), (6, s_iload 1 7), (7, s_aload 0 8), (8, s_getf 5 0 11), (11, s_pushi 1 12), (12, s_iald 13), (13, s_icmp (fun x y => y ≤ x) 47 16), (16, s_aload 0 17), (17, s_getf 5 0 20), (20, s_iload 1 21), (21, s_pushi 1 22), (22, s_invS mX5_at 2 25), (25, s_aload 0 26), (26, s_getf 5 2 29), (29, s_aload 0 30), (30, s_getf 5 5 33), (33, s_iload 1 34), (34, s_iald 35), (35, s_pushi 1 36), (36, s_invS mX5_at 2 39), (39, s_iald 40), (40, s_iast 41), (41, s_iinc 1 1 44), (44, s_goto 6), (47, s_vret)]
set_option maxRecDepth 20000 in
theorem zX5_lays : ∀ q ∈ kX5_lays, Snd RX5 cX5_lays 2 none (rmM mX5_lays) q.1 q.2 :=
  fm (z_aload_n (j := 0) (by decide +kernel) rfl) (
  fm (z_inv (idx := 142) rfl (by decide +kernel) wd_4_216 wd_4_218 ws_47 wd_1_7 wd_4_219 (by decide +kernel) ⟨Nat.le_of_ble_eq_true rfl, Nat.le_of_ble_eq_true rfl⟩) (
  fm (z_iconst (n := 0) (by decide +kernel) (by decide)) (
  fm (z_istore_n (j := 1) (by decide +kernel) rfl (by decide)) (
  fm (z_iload_n (j := 1) (by decide +kernel) rfl) (
  fm (z_aload_n (j := 0) (by decide +kernel) rfl) (
  fm (z_getf (idx := 7) awX5 rfl (by decide) wd_4_12 rfl (by decide +kernel)) (
  fm (z_iconst (n := 1) (by decide +kernel) (by decide)) (
  fm (z_iald (by decide +kernel)) (
  fm (z_icmp_ge (off := 34) (by decide +kernel) (by decide)) (
  fm (z_aload_n (j := 0) (by decide +kernel) rfl) (
  fm (z_getf (idx := 7) awX5 rfl (by decide) wd_4_12 rfl (by decide +kernel)) (
  fm (z_iload_n (j := 1) (by decide +kernel) rfl) (
  fm (z_iconst (n := 1) (by decide +kernel) (by decide)) (
  fm (z_invS (idx := 48) (by decide +kernel) wd_4_102 wd_4_103 wd_1_7 wd_4_104 (by decide +kernel) ⟨Nat.le_of_ble_eq_true rfl, Nat.le_of_ble_eq_true rfl⟩) (
  fm (z_aload_n (j := 0) (by decide +kernel) rfl) (
  fm (z_getf (idx := 16) awX5 rfl (by decide) wd_4_14 rfl (by decide +kernel)) (
  fm (z_aload_n (j := 0) (by decide +kernel) rfl) (
  fm (z_getf (idx := 22) awX5 rfl (by decide) wd_4_17 rfl (by decide +kernel)) (
  fm (z_iload_n (j := 1) (by decide +kernel) rfl) (
  fm (z_iald (by decide +kernel)) (
  fm (z_iconst (n := 1) (by decide +kernel) (by decide)) (
  fm (z_invS (idx := 48) (by decide +kernel) wd_4_102 wd_4_103 wd_1_7 wd_4_104 (by decide +kernel) ⟨Nat.le_of_ble_eq_true rfl, Nat.le_of_ble_eq_true rfl⟩) (
  fm (z_iald (by decide +kernel)) (
  fm (z_iast (by decide +kernel)) (
  fm (z_iinc (n := 1) (by decide +kernel) (by decide) (by decide)) (
  fm (z_goto (off := (-38)) (by decide +kernel) (by decide)) (
  fm (z_vret rfl (by decide +kernel)) (fn))))))))))))))))))))))))))))
def kX5_load : Cd := [(0, s_aload 0 1), (1, s_iload 1 2), (2, s_inv mX5_wrong 5 1 5), (5, s_istore 2 6), (6, s_iload 2 7), (7, s_if (fun x => x = 0) 16 10), (10, s_aload 0 11), (11, s_iload 2 12), (12, s_inv mX5_finds 5 1 15), (15, s_iret), (16, s_pushi 0 17), (17, s_istore 3 18), (18, s_iload 3 19), (19, s_aload 0 20), (20, s_getf 5 14 23), (23, s_iload 1 24), (24, s_iald 25), (25, s_icmp (fun x y => y ≤ x) 81 28), (28, s_iload 3 29), (29, s_pushi 12 31), (31, s_icmp (fun x y => y ≤ x) 81 34), (34, s_aload 0 35), (35, s_getf 5 15 38), (38, s_pushi 40 40), (40, s_iload 1 41), (41, s_bin (fun x y => x * y) 42), (42, s_iload 3 43), (43, s_bin (fun x y => x + y) 44), (44, s_iald 45), (45, s_i2l 46), (46, s_pushl 0 47), (47, s_pushl 20 50), (50, s_invS mX5_in 3 53), (53, s_if (fun x => x = 0) 81 56), (56, s_aload 0 57), (57, s_getf 5 0 60), (60, s_pushi 4 61), (61, s_iload 3 62), (62, s_bin (fun x y => x + y) 63), (63, s_aload 0 64), (64, s_getf 5 15 67), (67, s_pushi 40 69), (69, s_iload 1 70), (70, s_bin (fun x y => x * y) 71), (71, s_iload 3 72), (72, s_bin (fun x y => x + y) 73), (73, s_iald 74), (74, s_iast 75), (75, s_iinc 3 1 78), (78, s_goto 18), (81, s_iload 3 82), (82, s_iret)]
set_option maxRecDepth 20000 in
theorem zX5_load : ∀ q ∈ kX5_load, Snd RX5 cX5_load 4 (some .int) (rmM mX5_load) q.1 q.2 :=
  fm (z_aload_n (j := 0) (by decide +kernel) rfl) (
  fm (z_iload_n (j := 1) (by decide +kernel) rfl) (
  fm (z_inv (idx := 301) rfl (by decide +kernel) wd_5_218 wd_5_220 ws_70 wd_1_7 wd_5_221 (by decide +kernel) ⟨Nat.le_of_ble_eq_true rfl, Nat.le_of_ble_eq_true rfl⟩) (
  fm (z_istore_n (j := 2) (by decide +kernel) rfl (by decide)) (
  fm (z_iload_n (j := 2) (by decide +kernel) rfl) (
  fm (z_if_eq (off := 9) (by decide +kernel) (by decide)) (
  fm (z_aload_n (j := 0) (by decide +kernel) rfl) (
  fm (z_iload_n (j := 2) (by decide +kernel) rfl) (
  fm (z_inv (idx := 58) rfl (by decide +kernel) wd_4_77 wd_4_79 ws_28 wd_1_7 wd_4_80 (by decide +kernel) ⟨Nat.le_of_ble_eq_true rfl, Nat.le_of_ble_eq_true rfl⟩) (
  fm (z_iret rfl (by decide +kernel)) (
  fm (z_iconst (n := 0) (by decide +kernel) (by decide)) (
  fm (z_istore_n (j := 3) (by decide +kernel) rfl (by decide)) (
  fm (z_iload_n (j := 3) (by decide +kernel) rfl) (
  fm (z_aload_n (j := 0) (by decide +kernel) rfl) (
  fm (z_getf (idx := 31) awX5 rfl (by decide) wd_4_26 rfl (by decide +kernel)) (
  fm (z_iload_n (j := 1) (by decide +kernel) rfl) (
  fm (z_iald (by decide +kernel)) (
  fm (z_icmp_ge (off := 56) (by decide +kernel) (by decide)) (
  fm (z_iload_n (j := 3) (by decide +kernel) rfl) (
  fm (z_bipush (n := 12) (by decide +kernel) (by decide)) (
  fm (z_icmp_ge (off := 50) (by decide +kernel) (by decide)) (
  fm (z_aload_n (j := 0) (by decide +kernel) rfl) (
  fm (z_getf (idx := 34) awX5 rfl (by decide) wd_4_27 rfl (by decide +kernel)) (
  fm (z_bipush (n := 40) (by decide +kernel) (by decide)) (
  fm (z_iload_n (j := 1) (by decide +kernel) rfl) (
  fm (z_imul (by decide +kernel)) (
  fm (z_iload_n (j := 3) (by decide +kernel) rfl) (
  fm (z_iadd (by decide +kernel)) (
  fm (z_iald (by decide +kernel)) (
  fm (z_i2l (by decide +kernel)) (
  fm (z_lconst (n := 0) (by decide +kernel) (by decide)) (
  fm (z_ldc2 (i := 56) (by decide +kernel) wd_4_75) (
  fm (z_invS (idx := 43) (by decide +kernel) wd_4_72 wd_4_73 wd_1_7 wd_4_74 (by decide +kernel) ⟨Nat.le_of_ble_eq_true rfl, Nat.le_of_ble_eq_true rfl⟩) (
  fm (z_if_eq (off := 28) (by decide +kernel) (by decide)) (
  fm (z_aload_n (j := 0) (by decide +kernel) rfl) (
  fm (z_getf (idx := 7) awX5 rfl (by decide) wd_4_12 rfl (by decide +kernel)) (
  fm (z_iconst (n := 4) (by decide +kernel) (by decide)) (
  fm (z_iload_n (j := 3) (by decide +kernel) rfl) (
  fm (z_iadd (by decide +kernel)) (
  fm (z_aload_n (j := 0) (by decide +kernel) rfl) (
  fm (z_getf (idx := 34) awX5 rfl (by decide) wd_4_27 rfl (by decide +kernel)) (
  fm (z_bipush (n := 40) (by decide +kernel) (by decide)) (
  fm (z_iload_n (j := 1) (by decide +kernel) rfl) (
  fm (z_imul (by decide +kernel)) (
  fm (z_iload_n (j := 3) (by decide +kernel) rfl) (
  fm (z_iadd (by decide +kernel)) (
  fm (z_iald (by decide +kernel)) (
  fm (z_iast (by decide +kernel)) (
  fm (z_iinc (n := 1) (by decide +kernel) (by decide) (by decide)) (
  fm (z_goto (off := (-60)) (by decide +kernel) (by decide)) (
  fm (z_iload_n (j := 3) (by decide +kernel) rfl) (
  fm (z_iret rfl (by decide +kernel)) (fn))))))))))))))))))))))))))))))))))))))))))))))))))))
def kX5_lots : Cd := [(0, s_iload 1 1), (1, s_i2l 2), (2, s_pushl 1 3), (3, s_pushl 12 6), (6, s_invS mX5_in 3 9), (9, s_if (fun x => x = 0) 12 19), (12, s_aload 0 13), (13, s_pushi (-1000001) 15), (15, s_inv mX5_finds 5 1 18), (18, s_iret), (19, s_aload 0 20), (20, s_getf 5 0 23), (23, s_pushi 1 24), (24, s_iald 25), (25, s_if (fun x => x = 0) 28 35), (28, s_aload 0 29), (29, s_pushi (-1000005) 31), (31, s_inv mX5_finds 5 1 34), (34, s_iret), (35, s_pushi 0 36), (36, s_istore 2 37), (37, s_iload 2 38), (38, s_iload 1 39), (39, s_icmp (fun x y => y ≤ x) 76 42), (42, s_aload 0 43), (43, s_inv mX5_draw 5 0 46), (46, s_aload 0 47), (47, s_getf 5 0 50), (50, s_pushi 1 51), (51, s_iald 52), (52, s_rem 53), (53, s_istore 3 54), (54, s_aload 0 55), (55, s_iload 3 56), (56, s_aload 0 57), (57, s_inv mX5_draw 5 0 60), (60, s_aload 0 61), (61, s_getf 5 0 64), (64, s_pushi 1 65), (65, s_iald 66), (66, s_rem 67), (67, s_inv mX5_swaps 5 2 70), (70, s_iinc 2 1 73), (73, s_goto 37), (76, s_pushi 100 78), (78, s_aload 0 79), (79, s_pushi 0 80), (80, s_pushi 1 81), (81, s_inv mX5_its 5 2 84), (84, s_bin (fun x y => x * y) 85), (85, s_aload 0 86), (86, s_aload 0 87), (87, s_getf 5 0 90), (90, s_pushi 1 91), (91, s_iald 92), (92, s_pushi 1 93), (93, s_bin (fun x y => x - y) 94), (94, s_pushi 1 95), (95, s_inv mX5_its 5 2 98), (98, s_bin (fun x y => x + y) 99), (99, s_iret)]
set_option maxRecDepth 20000 in
theorem zX5_lots : ∀ q ∈ kX5_lots, Snd RX5 cX5_lots 4 (some .int) (rmM mX5_lots) q.1 q.2 :=
  fm (z_iload_n (j := 1) (by decide +kernel) rfl) (
  fm (z_i2l (by decide +kernel)) (
  fm (z_lconst (n := 1) (by decide +kernel) (by decide)) (
  fm (z_ldc2 (i := 187) (by decide +kernel) wd_5_102) (
  fm (z_invS (idx := 43) (by decide +kernel) wd_4_72 wd_4_73 wd_1_7 wd_4_74 (by decide +kernel) ⟨Nat.le_of_ble_eq_true rfl, Nat.le_of_ble_eq_true rfl⟩) (
  fm (z_if_ne (off := 10) (by decide +kernel) (by decide)) (
  fm (z_aload_n (j := 0) (by decide +kernel) rfl) (
  fm (z_ldc (i := 40) (by decide +kernel) wd_4_76) (
  fm (z_inv (idx := 58) rfl (by decide +kernel) wd_4_77 wd_4_79 ws_28 wd_1_7 wd_4_80 (by decide +kernel) ⟨Nat.le_of_ble_eq_true rfl, Nat.le_of_ble_eq_true rfl⟩) (
  fm (z_iret rfl (by decide +kernel)) (
  fm (z_aload_n (j := 0) (by decide +kernel) rfl) (
  fm (z_getf (idx := 7) awX5 rfl (by decide) wd_4_12 rfl (by decide +kernel)) (
  fm (z_iconst (n := 1) (by decide +kernel) (by decide)) (
  fm (z_iald (by decide +kernel)) (
  fm (z_if_ne (off := 10) (by decide +kernel) (by decide)) (
  fm (z_aload_n (j := 0) (by decide +kernel) rfl) (
  fm (z_ldc (i := 70) (by decide +kernel) wd_4_105) (
  fm (z_inv (idx := 58) rfl (by decide +kernel) wd_4_77 wd_4_79 ws_28 wd_1_7 wd_4_80 (by decide +kernel) ⟨Nat.le_of_ble_eq_true rfl, Nat.le_of_ble_eq_true rfl⟩) (
  fm (z_iret rfl (by decide +kernel)) (
  fm (z_iconst (n := 0) (by decide +kernel) (by decide)) (
  fm (z_istore_n (j := 2) (by decide +kernel) rfl (by decide)) (
  fm (z_iload_n (j := 2) (by decide +kernel) rfl) (
  fm (z_iload_n (j := 1) (by decide +kernel) rfl) (
  fm (z_icmp_ge (off := 37) (by decide +kernel) (by decide)) (
  fm (z_aload_n (j := 0) (by decide +kernel) rfl) (
  fm (z_inv (idx := 189) rfl (by decide +kernel) wd_5_103 wd_5_105 ws_58 wd_1_7 wd_5_106 (by decide +kernel) ⟨Nat.le_of_ble_eq_true rfl, Nat.le_of_ble_eq_true rfl⟩) (
  fm (z_aload_n (j := 0) (by decide +kernel) rfl) (
  fm (z_getf (idx := 7) awX5 rfl (by decide) wd_4_12 rfl (by decide +kernel)) (
  fm (z_iconst (n := 1) (by decide +kernel) (by decide)) (
  fm (z_iald (by decide +kernel)) (
  fm (z_irem (by decide +kernel)) (
  fm (z_istore_n (j := 3) (by decide +kernel) rfl (by decide)) (
  fm (z_aload_n (j := 0) (by decide +kernel) rfl) (
  fm (z_iload_n (j := 3) (by decide +kernel) rfl) (
  fm (z_aload_n (j := 0) (by decide +kernel) rfl) (
  fm (z_inv (idx := 189) rfl (by decide +kernel) wd_5_103 wd_5_105 ws_58 wd_1_7 wd_5_106 (by decide +kernel) ⟨Nat.le_of_ble_eq_true rfl, Nat.le_of_ble_eq_true rfl⟩) (
  fm (z_aload_n (j := 0) (by decide +kernel) rfl) (
  fm (z_getf (idx := 7) awX5 rfl (by decide) wd_4_12 rfl (by decide +kernel)) (
  fm (z_iconst (n := 1) (by decide +kernel) (by decide)) (
  fm (z_iald (by decide +kernel)) (
  fm (z_irem (by decide +kernel)) (
  fm (z_inv (idx := 87) rfl (by decide +kernel) wd_4_136 wd_4_138 ws_35 wd_1_7 wd_4_139 (by decide +kernel) ⟨Nat.le_of_ble_eq_true rfl, Nat.le_of_ble_eq_true rfl⟩) (
  fm (z_iinc (n := 1) (by decide +kernel) (by decide) (by decide)) (
  fm (z_goto (off := (-36)) (by decide +kernel) (by decide)) (
  fm (z_bipush (n := 100) (by decide +kernel) (by decide)) (
  fm (z_aload_n (j := 0) (by decide +kernel) rfl) (
  fm (z_iconst (n := 0) (by decide +kernel) (by decide)) (
  fm (z_iconst (n := 1) (by decide +kernel) (by decide)) (
  fm (z_inv (idx := 62) rfl (by decide +kernel) wd_4_98 wd_4_100 ws_30 wd_1_7 wd_4_101 (by decide +kernel) ⟨Nat.le_of_ble_eq_true rfl, Nat.le_of_ble_eq_true rfl⟩) (
  fm (z_imul (by decide +kernel)) (
  fm (z_aload_n (j := 0) (by decide +kernel) rfl) (
  fm (z_aload_n (j := 0) (by decide +kernel) rfl) (
  fm (z_getf (idx := 7) awX5 rfl (by decide) wd_4_12 rfl (by decide +kernel)) (
  fm (z_iconst (n := 1) (by decide +kernel) (by decide)) (
  fm (z_iald (by decide +kernel)) (
  fm (z_iconst (n := 1) (by decide +kernel) (by decide)) (
  fm (z_isub (by decide +kernel)) (
  fm (z_iconst (n := 1) (by decide +kernel) (by decide)) (
  fm (z_inv (idx := 62) rfl (by decide +kernel) wd_4_98 wd_4_100 ws_30 wd_1_7 wd_4_101 (by decide +kernel) ⟨Nat.le_of_ble_eq_true rfl, Nat.le_of_ble_eq_true rfl⟩) (
  fm (z_iadd (by decide +kernel)) (
  fm (z_iret rfl (by decide +kernel)) (fn)))))))))))))))))))))))))))))))))))))))))))))))))))))))))))))
def kX5_meet : Cd := [(0, s_aload 0 1), (1, s_iload 1 2), (2, s_iload 2 3), (3, s_inv mX5_isTwo 5 2 6), (6, s_if (fun x => x = 0) 9 16), (9, s_aload 0 10), (10, s_pushi (-1000001) 12), (12, s_inv mX5_finds 5 1 15), (15, s_iret), (16, s_aload 0 17), (17, s_pushi 96 19), (19, s_inv mX5_isTooLate 5 1 22), (22, s_if (fun x => x = 0) 32 25), (25, s_aload 0 26), (26, s_pushi (-1000005) 28), (28, s_inv mX5_finds 5 1 31), (31, s_iret), (32, s_aload 0 33), (33, s_inv mX5_saves 5 0 36), (36, s_pushi 0 37), (37, s_istore 3 38), (38, s_iload 3 39), (39, s_pushi 97 41), (41, s_icmp (fun x y => y ≤ x) 65 44), (44, s_aload 0 45), (45, s_iload 1 46), (46, s_iload 2 47), (47, s_inv mX5_isBeside 5 2 50), (50, s_if (fun x => x = 0) 53 65), (53, s_aload 0 54), (54, s_inv mX5_hour 5 0 57), (57, s_istore 4 59), (59, s_iinc 3 1 62), (62, s_goto 38), (65, s_aload 0 66), (66, s_inv mX5_putsBack 5 0 69), (69, s_iload 3 70), (70, s_pushi 96 72), (72, s_icmp (fun x y => x ≤ y) 84 75), (75, s_aload 0 76), (76, s_pushi (-1000004) 78), (78, s_inv mX5_finds 5 1 81), (81, s_goto 85), (84, s_iload 3 85), (85, s_iret)]
set_option maxRecDepth 20000 in
theorem zX5_meet : ∀ q ∈ kX5_meet, Snd RX5 cX5_meet 5 (some .int) (rmM mX5_meet) q.1 q.2 :=
  fm (z_aload_n (j := 0) (by decide +kernel) rfl) (
  fm (z_iload_n (j := 1) (by decide +kernel) rfl) (
  fm (z_iload_n (j := 2) (by decide +kernel) rfl) (
  fm (z_inv (idx := 181) rfl (by decide +kernel) wd_5_74 wd_5_76 ws_56 wd_1_7 wd_5_77 (by decide +kernel) ⟨Nat.le_of_ble_eq_true rfl, Nat.le_of_ble_eq_true rfl⟩) (
  fm (z_if_ne (off := 10) (by decide +kernel) (by decide)) (
  fm (z_aload_n (j := 0) (by decide +kernel) rfl) (
  fm (z_ldc (i := 40) (by decide +kernel) wd_4_76) (
  fm (z_inv (idx := 58) rfl (by decide +kernel) wd_4_77 wd_4_79 ws_28 wd_1_7 wd_4_80 (by decide +kernel) ⟨Nat.le_of_ble_eq_true rfl, Nat.le_of_ble_eq_true rfl⟩) (
  fm (z_iret rfl (by decide +kernel)) (
  fm (z_aload_n (j := 0) (by decide +kernel) rfl) (
  fm (z_bipush (n := 96) (by decide +kernel) (by decide)) (
  fm (z_inv (idx := 119) rfl (by decide +kernel) wd_4_158 wd_4_160 ws_37 wd_1_7 wd_4_161 (by decide +kernel) ⟨Nat.le_of_ble_eq_true rfl, Nat.le_of_ble_eq_true rfl⟩) (
  fm (z_if_eq (off := 10) (by decide +kernel) (by decide)) (
  fm (z_aload_n (j := 0) (by decide +kernel) rfl) (
  fm (z_ldc (i := 70) (by decide +kernel) wd_4_105) (
  fm (z_inv (idx := 58) rfl (by decide +kernel) wd_4_77 wd_4_79 ws_28 wd_1_7 wd_4_80 (by decide +kernel) ⟨Nat.le_of_ble_eq_true rfl, Nat.le_of_ble_eq_true rfl⟩) (
  fm (z_iret rfl (by decide +kernel)) (
  fm (z_aload_n (j := 0) (by decide +kernel) rfl) (
  fm (z_inv (idx := 130) rfl (by decide +kernel) wd_4_200 wd_4_202 ws_43 wd_1_7 wd_4_203 (by decide +kernel) ⟨Nat.le_of_ble_eq_true rfl, Nat.le_of_ble_eq_true rfl⟩) (
  fm (z_iconst (n := 0) (by decide +kernel) (by decide)) (
  fm (z_istore_n (j := 3) (by decide +kernel) rfl (by decide)) (
  fm (z_iload_n (j := 3) (by decide +kernel) rfl) (
  fm (z_bipush (n := 97) (by decide +kernel) (by decide)) (
  fm (z_icmp_ge (off := 24) (by decide +kernel) (by decide)) (
  fm (z_aload_n (j := 0) (by decide +kernel) rfl) (
  fm (z_iload_n (j := 1) (by decide +kernel) rfl) (
  fm (z_iload_n (j := 2) (by decide +kernel) rfl) (
  fm (z_inv (idx := 175) rfl (by decide +kernel) wd_5_62 wd_5_64 ws_55 wd_1_7 wd_5_65 (by decide +kernel) ⟨Nat.le_of_ble_eq_true rfl, Nat.le_of_ble_eq_true rfl⟩) (
  fm (z_if_ne (off := 15) (by decide +kernel) (by decide)) (
  fm (z_aload_n (j := 0) (by decide +kernel) rfl) (
  fm (z_inv (idx := 113) rfl (by decide +kernel) wd_4_166 wd_4_168 ws_39 wd_1_7 wd_4_169 (by decide +kernel) ⟨Nat.le_of_ble_eq_true rfl, Nat.le_of_ble_eq_true rfl⟩) (
  fm (z_istore (i := 4) (by decide +kernel) (by decide)) (
  fm (z_iinc (n := 1) (by decide +kernel) (by decide) (by decide)) (
  fm (z_goto (off := (-24)) (by decide +kernel) (by decide)) (
  fm (z_aload_n (j := 0) (by decide +kernel) rfl) (
  fm (z_inv (idx := 142) rfl (by decide +kernel) wd_4_216 wd_4_218 ws_47 wd_1_7 wd_4_219 (by decide +kernel) ⟨Nat.le_of_ble_eq_true rfl, Nat.le_of_ble_eq_true rfl⟩) (
  fm (z_iload_n (j := 3) (by decide +kernel) rfl) (
  fm (z_bipush (n := 96) (by decide +kernel) (by decide)) (
  fm (z_icmp_le (off := 12) (by decide +kernel) (by decide)) (
  fm (z_aload_n (j := 0) (by decide +kernel) rfl) (
  fm (z_ldc (i := 145) (by decide +kernel) wd_4_224) (
  fm (z_inv (idx := 58) rfl (by decide +kernel) wd_4_77 wd_4_79 ws_28 wd_1_7 wd_4_80 (by decide +kernel) ⟨Nat.le_of_ble_eq_true rfl, Nat.le_of_ble_eq_true rfl⟩) (
  fm (z_goto (off := 4) (by decide +kernel) (by decide)) (
  fm (z_iload_n (j := 3) (by decide +kernel) rfl) (
  fm (z_iret rfl (by decide +kernel)) (fn)))))))))))))))))))))))))))))))))))))))))))))
def kX5_most : Cd := [(0, s_iload 1 1), (1, s_i2l 2), (2, s_pushl 1 3), (3, s_pushl 24 6), (6, s_invS mX5_in 3 9), (9, s_if (fun x => x = 0) 12 17), (12, s_pushi (-1000001) 14), (14, s_goto 22), (17, s_aload 0 18), (18, s_iload 1 19), (19, s_inv mX5_orderWrong 5 1 22), (22, s_istore 2 23), (23, s_iload 2 24), (24, s_if (fun x => x = 0) 35 27), (27, s_aload 0 28), (28, s_iload 2 29), (29, s_inv mX5_finds 5 1 32), (32, s_goto 41), (35, s_aload 0 36), (36, s_pushi 0 37), (37, s_iload 1 38), (38, s_inv mX5_bestOrder 5 2 41), (41, s_iret)]
set_option maxRecDepth 20000 in
theorem zX5_most : ∀ q ∈ kX5_most, Snd RX5 cX5_most 3 (some .int) (rmM mX5_most) q.1 q.2 :=
  fm (z_iload_n (j := 1) (by decide +kernel) rfl) (
  fm (z_i2l (by decide +kernel)) (
  fm (z_lconst (n := 1) (by decide +kernel) (by decide)) (
  fm (z_ldc2 (i := 161) (by decide +kernel) wd_5_5) (
  fm (z_invS (idx := 43) (by decide +kernel) wd_4_72 wd_4_73 wd_1_7 wd_4_74 (by decide +kernel) ⟨Nat.le_of_ble_eq_true rfl, Nat.le_of_ble_eq_true rfl⟩) (
  fm (z_if_ne (off := 8) (by decide +kernel) (by decide)) (
  fm (z_ldc (i := 40) (by decide +kernel) wd_4_76) (
  fm (z_goto (off := 8) (by decide +kernel) (by decide)) (
  fm (z_aload_n (j := 0) (by decide +kernel) rfl) (
  fm (z_iload_n (j := 1) (by decide +kernel) rfl) (
  fm (z_inv (idx := 163) rfl (by decide +kernel) wd_5_6 wd_5_8 ws_48 wd_1_7 wd_5_9 (by decide +kernel) ⟨Nat.le_of_ble_eq_true rfl, Nat.le_of_ble_eq_true rfl⟩) (
  fm (z_istore_n (j := 2) (by decide +kernel) rfl (by decide)) (
  fm (z_iload_n (j := 2) (by decide +kernel) rfl) (
  fm (z_if_eq (off := 11) (by decide +kernel) (by decide)) (
  fm (z_aload_n (j := 0) (by decide +kernel) rfl) (
  fm (z_iload_n (j := 2) (by decide +kernel) rfl) (
  fm (z_inv (idx := 58) rfl (by decide +kernel) wd_4_77 wd_4_79 ws_28 wd_1_7 wd_4_80 (by decide +kernel) ⟨Nat.le_of_ble_eq_true rfl, Nat.le_of_ble_eq_true rfl⟩) (
  fm (z_goto (off := 9) (by decide +kernel) (by decide)) (
  fm (z_aload_n (j := 0) (by decide +kernel) rfl) (
  fm (z_iconst (n := 0) (by decide +kernel) (by decide)) (
  fm (z_iload_n (j := 1) (by decide +kernel) rfl) (
  fm (z_inv (idx := 166) rfl (by decide +kernel) wd_5_11 wd_5_13 ws_49 wd_1_7 wd_5_14 (by decide +kernel) ⟨Nat.le_of_ble_eq_true rfl, Nat.le_of_ble_eq_true rfl⟩) (
  fm (z_iret rfl (by decide +kernel)) (fn)))))))))))))))))))))))
def kX5_narrowed : Cd := [(0, s_iload 0 1), (1, s_pushi 8 3), (3, s_icmp (fun x y => x = y) 6 11), (6, s_iload 1 7), (7, s_un (fun x => x.toInt8.toInt32) 8), (8, s_goto 23), (11, s_iload 0 12), (12, s_pushi 16 14), (14, s_icmp (fun x y => x = y) 17 22), (17, s_iload 1 18), (18, s_un (fun x => x.toInt16.toInt32) 19), (19, s_goto 23), (22, s_iload 1 23), (23, s_iret)]
set_option maxRecDepth 20000 in
theorem zX5_narrowed : ∀ q ∈ kX5_narrowed, Snd RX5 cX5_narrowed 2 (some .int) (rmM mX5_narrowed) q.1 q.2 :=
  fm (z_iload_n (j := 0) (by decide +kernel) rfl) (
  fm (z_bipush (n := 8) (by decide +kernel) (by decide)) (
  fm (z_icmp_ne (off := 8) (by decide +kernel) (by decide)) (
  fm (z_iload_n (j := 1) (by decide +kernel) rfl) (
  fm (z_i2b (by decide +kernel)) (
  fm (z_goto (off := 15) (by decide +kernel) (by decide)) (
  fm (z_iload_n (j := 0) (by decide +kernel) rfl) (
  fm (z_bipush (n := 16) (by decide +kernel) (by decide)) (
  fm (z_icmp_ne (off := 8) (by decide +kernel) (by decide)) (
  fm (z_iload_n (j := 1) (by decide +kernel) rfl) (
  fm (z_i2s (by decide +kernel)) (
  fm (z_goto (off := 4) (by decide +kernel) (by decide)) (
  fm (z_iload_n (j := 1) (by decide +kernel) rfl) (
  fm (z_iret rfl (by decide +kernel)) (fn))))))))))))))
def kX5_needs : Cd := [(0, s_aload 0 1), (1, s_aload 0 2), (2, s_getf 5 12 5), (5, s_if (fun x => x = 0) 8 12), (8, s_iload 1 9), (9, s_if (fun x => x = 0) 12 16), (12, s_pushi 1 13), (13, s_goto 17), (16, s_pushi 0 17), (17, s_putf .boolean 5 12 20), (20, s_aload 0 21), (21, s_getf 5 12 24), (24, s_if (fun x => x = 0) 27 31), (27, s_aload 0 28), (28, s_inv mX5_token 5 0 31), (31, s_vret)]
set_option maxRecDepth 20000 in
theorem zX5_needs : ∀ q ∈ kX5_needs, Snd RX5 cX5_needs 2 none (rmM mX5_needs) q.1 q.2 :=
  fm (z_aload_n (j := 0) (by decide +kernel) rfl) (
  fm (z_aload_n (j := 0) (by decide +kernel) rfl) (
  fm (z_getf (idx := 218) awX5 rfl (by decide) wd_4_24 rfl (by decide +kernel)) (
  fm (z_if_ne (off := 7) (by decide +kernel) (by decide)) (
  fm (z_iload_n (j := 1) (by decide +kernel) rfl) (
  fm (z_if_ne (off := 7) (by decide +kernel) (by decide)) (
  fm (z_iconst (n := 1) (by decide +kernel) (by decide)) (
  fm (z_goto (off := 4) (by decide +kernel) (by decide)) (
  fm (z_iconst (n := 0) (by decide +kernel) (by decide)) (
  fm (z_putf (idx := 218) tyX5 tyX5_ok nmX5 awX5 rfl (by decide) wd_4_24 rfl rfl (by decide +kernel) (by decide +kernel)) (
  fm (z_aload_n (j := 0) (by decide +kernel) rfl) (
  fm (z_getf (idx := 218) awX5 rfl (by decide) wd_4_24 rfl (by decide +kernel)) (
  fm (z_if_ne (off := 7) (by decide +kernel) (by decide)) (
  fm (z_aload_n (j := 0) (by decide +kernel) rfl) (
  fm (z_inv (idx := 222) rfl (by decide +kernel) wd_5_125 wd_5_127 ws_59 wd_1_7 wd_5_128 (by decide +kernel) ⟨Nat.le_of_ble_eq_true rfl, Nat.le_of_ble_eq_true rfl⟩) (
  fm (z_vret rfl (by decide +kernel)) (fn))))))))))))))))
def kX5_never : Cd := [(0, s_aload 0 1), (1, s_iload 1 2), (2, s_iload 2 3), (3, s_inv mX5_isTwo 5 2 6), (6, s_if (fun x => x = 0) 21 9), (9, s_iload 3 10), (10, s_i2l 11), (11, s_pushl 0 12), (12, s_pushl 24 15), (15, s_invS mX5_in 3 18), (18, s_if (fun x => x = 0) 21 26), (21, s_pushi (-1000001) 23), (23, s_goto 31), (26, s_aload 0 27), (27, s_iload 3 28), (28, s_inv mX5_orderWrong 5 1 31), (31, s_istore 4 33), (33, s_iload 4 35), (35, s_if (fun x => x = 0) 45 38), (38, s_aload 0 39), (39, s_iload 4 41), (41, s_inv mX5_finds 5 1 44), (44, s_iret), (45, s_aload 0 46), (46, s_inv mX5_saves 5 0 49), (49, s_aload 0 50), (50, s_inv mX5_firstOrder 5 0 53), (53, s_pushi 0 54), (54, s_istore 5 56), (56, s_pushi 1 57), (57, s_istore 6 59), (59, s_iload 6 61), (61, s_if (fun x => x = 0) 134 64), (64, s_aload 0 65), (65, s_inv mX5_lays 5 0 68), (68, s_aload 0 69), (69, s_iload 1 70), (70, s_iload 2 71), (71, s_inv mX5_isBeside 5 2 74), (74, s_istore 7 76), (76, s_pushi 0 77), (77, s_istore 8 79), (79, s_iload 8 81), (81, s_iload 3 82), (82, s_icmp (fun x y => y ≤ x) 110 85), (85, s_iload 7 87), (87, s_if (fun x => x = 0) 90 110), (90, s_aload 0 91), (91, s_inv mX5_hour 5 0 94), (94, s_istore 9 96), (96, s_aload 0 97), (97, s_iload 1 98), (98, s_iload 2 99), (99, s_inv mX5_isBeside 5 2 102), (102, s_istore 7 104), (104, s_iinc 8 1 107), (107, s_goto 79), (110, s_iload 5 112), (112, s_iload 7 114), (114, s_if (fun x => x = 0) 121 117), (117, s_pushi 0 118), (118, s_goto 122), (121, s_pushi 1 122), (122, s_bin (fun x y => x + y) 123), (123, s_istore 5 125), (125, s_aload 0 126), (126, s_inv mX5_nextOrder 5 0 129), (129, s_istore 6 131), (131, s_goto 59), (134, s_aload 0 135), (135, s_inv mX5_putsBack 5 0 138), (138, s_iload 5 140), (140, s_iret)]
set_option maxRecDepth 20000 in
theorem zX5_never : ∀ q ∈ kX5_never, Snd RX5 cX5_never 10 (some .int) (rmM mX5_never) q.1 q.2 :=
  fm (z_aload_n (j := 0) (by decide +kernel) rfl) (
  fm (z_iload_n (j := 1) (by decide +kernel) rfl) (
  fm (z_iload_n (j := 2) (by decide +kernel) rfl) (
  fm (z_inv (idx := 181) rfl (by decide +kernel) wd_5_74 wd_5_76 ws_56 wd_1_7 wd_5_77 (by decide +kernel) ⟨Nat.le_of_ble_eq_true rfl, Nat.le_of_ble_eq_true rfl⟩) (
  fm (z_if_eq (off := 15) (by decide +kernel) (by decide)) (
  fm (z_iload_n (j := 3) (by decide +kernel) rfl) (
  fm (z_i2l (by decide +kernel)) (
  fm (z_lconst (n := 0) (by decide +kernel) (by decide)) (
  fm (z_ldc2 (i := 161) (by decide +kernel) wd_5_5) (
  fm (z_invS (idx := 43) (by decide +kernel) wd_4_72 wd_4_73 wd_1_7 wd_4_74 (by decide +kernel) ⟨Nat.le_of_ble_eq_true rfl, Nat.le_of_ble_eq_true rfl⟩) (
  fm (z_if_ne (off := 8) (by decide +kernel) (by decide)) (
  fm (z_ldc (i := 40) (by decide +kernel) wd_4_76) (
  fm (z_goto (off := 8) (by decide +kernel) (by decide)) (
  fm (z_aload_n (j := 0) (by decide +kernel) rfl) (
  fm (z_iload_n (j := 3) (by decide +kernel) rfl) (
  fm (z_inv (idx := 163) rfl (by decide +kernel) wd_5_6 wd_5_8 ws_48 wd_1_7 wd_5_9 (by decide +kernel) ⟨Nat.le_of_ble_eq_true rfl, Nat.le_of_ble_eq_true rfl⟩) (
  fm (z_istore (i := 4) (by decide +kernel) (by decide)) (
  fm (z_iload (i := 4) (by decide +kernel)) (
  fm (z_if_eq (off := 10) (by decide +kernel) (by decide)) (
  fm (z_aload_n (j := 0) (by decide +kernel) rfl) (
  fm (z_iload (i := 4) (by decide +kernel)) (
  fm (z_inv (idx := 58) rfl (by decide +kernel) wd_4_77 wd_4_79 ws_28 wd_1_7 wd_4_80 (by decide +kernel) ⟨Nat.le_of_ble_eq_true rfl, Nat.le_of_ble_eq_true rfl⟩) (
  fm (z_iret rfl (by decide +kernel)) (
  fm (z_aload_n (j := 0) (by decide +kernel) rfl) (
  fm (z_inv (idx := 130) rfl (by decide +kernel) wd_4_200 wd_4_202 ws_43 wd_1_7 wd_4_203 (by decide +kernel) ⟨Nat.le_of_ble_eq_true rfl, Nat.le_of_ble_eq_true rfl⟩) (
  fm (z_aload_n (j := 0) (by decide +kernel) rfl) (
  fm (z_inv (idx := 147) rfl (by decide +kernel) wd_5_15 wd_5_17 ws_50 wd_1_7 wd_5_18 (by decide +kernel) ⟨Nat.le_of_ble_eq_true rfl, Nat.le_of_ble_eq_true rfl⟩) (
  fm (z_iconst (n := 0) (by decide +kernel) (by decide)) (
  fm (z_istore (i := 5) (by decide +kernel) (by decide)) (
  fm (z_iconst (n := 1) (by decide +kernel) (by decide)) (
  fm (z_istore (i := 6) (by decide +kernel) (by decide)) (
  fm (z_iload (i := 6) (by decide +kernel)) (
  fm (z_if_eq (off := 73) (by decide +kernel) (by decide)) (
  fm (z_aload_n (j := 0) (by decide +kernel) rfl) (
  fm (z_inv (idx := 150) rfl (by decide +kernel) wd_5_19 wd_5_21 ws_51 wd_1_7 wd_5_22 (by decide +kernel) ⟨Nat.le_of_ble_eq_true rfl, Nat.le_of_ble_eq_true rfl⟩) (
  fm (z_aload_n (j := 0) (by decide +kernel) rfl) (
  fm (z_iload_n (j := 1) (by decide +kernel) rfl) (
  fm (z_iload_n (j := 2) (by decide +kernel) rfl) (
  fm (z_inv (idx := 175) rfl (by decide +kernel) wd_5_62 wd_5_64 ws_55 wd_1_7 wd_5_65 (by decide +kernel) ⟨Nat.le_of_ble_eq_true rfl, Nat.le_of_ble_eq_true rfl⟩) (
  fm (z_istore (i := 7) (by decide +kernel) (by decide)) (
  fm (z_iconst (n := 0) (by decide +kernel) (by decide)) (
  fm (z_istore (i := 8) (by decide +kernel) (by decide)) (
  fm (z_iload (i := 8) (by decide +kernel)) (
  fm (z_iload_n (j := 3) (by decide +kernel) rfl) (
  fm (z_icmp_ge (off := 28) (by decide +kernel) (by decide)) (
  fm (z_iload (i := 7) (by decide +kernel)) (
  fm (z_if_ne (off := 23) (by decide +kernel) (by decide)) (
  fm (z_aload_n (j := 0) (by decide +kernel) rfl) (
  fm (z_inv (idx := 113) rfl (by decide +kernel) wd_4_166 wd_4_168 ws_39 wd_1_7 wd_4_169 (by decide +kernel) ⟨Nat.le_of_ble_eq_true rfl, Nat.le_of_ble_eq_true rfl⟩) (
  fm (z_istore (i := 9) (by decide +kernel) (by decide)) (
  fm (z_aload_n (j := 0) (by decide +kernel) rfl) (
  fm (z_iload_n (j := 1) (by decide +kernel) rfl) (
  fm (z_iload_n (j := 2) (by decide +kernel) rfl) (
  fm (z_inv (idx := 175) rfl (by decide +kernel) wd_5_62 wd_5_64 ws_55 wd_1_7 wd_5_65 (by decide +kernel) ⟨Nat.le_of_ble_eq_true rfl, Nat.le_of_ble_eq_true rfl⟩) (
  fm (z_istore (i := 7) (by decide +kernel) (by decide)) (
  fm (z_iinc (n := 1) (by decide +kernel) (by decide) (by decide)) (
  fm (z_goto (off := (-28)) (by decide +kernel) (by decide)) (
  fm (z_iload (i := 5) (by decide +kernel)) (
  fm (z_iload (i := 7) (by decide +kernel)) (
  fm (z_if_eq (off := 7) (by decide +kernel) (by decide)) (
  fm (z_iconst (n := 0) (by decide +kernel) (by decide)) (
  fm (z_goto (off := 4) (by decide +kernel) (by decide)) (
  fm (z_iconst (n := 1) (by decide +kernel) (by decide)) (
  fm (z_iadd (by decide +kernel)) (
  fm (z_istore (i := 5) (by decide +kernel) (by decide)) (
  fm (z_aload_n (j := 0) (by decide +kernel) rfl) (
  fm (z_inv (idx := 157) rfl (by decide +kernel) wd_5_23 wd_5_25 ws_52 wd_1_7 wd_5_26 (by decide +kernel) ⟨Nat.le_of_ble_eq_true rfl, Nat.le_of_ble_eq_true rfl⟩) (
  fm (z_istore (i := 6) (by decide +kernel) (by decide)) (
  fm (z_goto (off := (-72)) (by decide +kernel) (by decide)) (
  fm (z_aload_n (j := 0) (by decide +kernel) rfl) (
  fm (z_inv (idx := 142) rfl (by decide +kernel) wd_4_216 wd_4_218 ws_47 wd_1_7 wd_4_219 (by decide +kernel) ⟨Nat.le_of_ble_eq_true rfl, Nat.le_of_ble_eq_true rfl⟩) (
  fm (z_iload (i := 5) (by decide +kernel)) (
  fm (z_iret rfl (by decide +kernel)) (fn)))))))))))))))))))))))))))))))))))))))))))))))))))))))))))))))))))))))))
def kX5_newStall : Cd := [(0, s_aload 0 1), (1, s_getf 5 0 4), (4, s_pushi 1 5), (5, s_iald 6), (6, s_istore 4 8), (8, s_aload 0 9), (9, s_getf 5 0 12), (12, s_iload 4 14), (14, s_pushi 0 15), (15, s_invS mX5_at 2 18), (18, s_iload 1 19), (19, s_iast 20), (20, s_aload 0 21), (21, s_getf 5 0 24), (24, s_iload 4 26), (26, s_pushi 1 27), (27, s_invS mX5_at 2 30), (30, s_iload 2 31), (31, s_iast 32), (32, s_aload 0 33), (33, s_getf 5 0 36), (36, s_iload 4 38), (38, s_pushi 2 39), (39, s_invS mX5_at 2 42), (42, s_iload 3 43), (43, s_iast 44), (44, s_aload 0 45), (45, s_getf 5 0 48), (48, s_iload 4 50), (50, s_pushi 3 51), (51, s_invS mX5_at 2 54), (54, s_pushi 0 55), (55, s_iast 56), (56, s_aload 0 57), (57, s_getf 5 0 60), (60, s_iload 4 62), (62, s_pushi 4 63), (63, s_invS mX5_at 2 66), (66, s_pushi 0 67), (67, s_iast 68), (68, s_aload 0 69), (69, s_getf 5 0 72), (72, s_pushi 1 73), (73, s_dup2 74), (74, s_iald 75), (75, s_pushi 1 76), (76, s_bin (fun x y => x + y) 77), (77, s_iast 78), (78, s_iload 4 80), (80, s_iret)]
set_option maxRecDepth 20000 in
theorem zX5_newStall : ∀ q ∈ kX5_newStall, Snd RX5 cX5_newStall 5 (some .int) (rmM mX5_newStall) q.1 q.2 :=
  fm (z_aload_n (j := 0) (by decide +kernel) rfl) (
  fm (z_getf (idx := 7) awX5 rfl (by decide) wd_4_12 rfl (by decide +kernel)) (
  fm (z_iconst (n := 1) (by decide +kernel) (by decide)) (
  fm (z_iald (by decide +kernel)) (
  fm (z_istore (i := 4) (by decide +kernel) (by decide)) (
  fm (z_aload_n (j := 0) (by decide +kernel) rfl) (
  fm (z_getf (idx := 7) awX5 rfl (by decide) wd_4_12 rfl (by decide +kernel)) (
  fm (z_iload (i := 4) (by decide +kernel)) (
  fm (z_iconst (n := 0) (by decide +kernel) (by decide)) (
  fm (z_invS (idx := 48) (by decide +kernel) wd_4_102 wd_4_103 wd_1_7 wd_4_104 (by decide +kernel) ⟨Nat.le_of_ble_eq_true rfl, Nat.le_of_ble_eq_true rfl⟩) (
  fm (z_iload_n (j := 1) (by decide +kernel) rfl) (
  fm (z_iast (by decide +kernel)) (
  fm (z_aload_n (j := 0) (by decide +kernel) rfl) (
  fm (z_getf (idx := 7) awX5 rfl (by decide) wd_4_12 rfl (by decide +kernel)) (
  fm (z_iload (i := 4) (by decide +kernel)) (
  fm (z_iconst (n := 1) (by decide +kernel) (by decide)) (
  fm (z_invS (idx := 48) (by decide +kernel) wd_4_102 wd_4_103 wd_1_7 wd_4_104 (by decide +kernel) ⟨Nat.le_of_ble_eq_true rfl, Nat.le_of_ble_eq_true rfl⟩) (
  fm (z_iload_n (j := 2) (by decide +kernel) rfl) (
  fm (z_iast (by decide +kernel)) (
  fm (z_aload_n (j := 0) (by decide +kernel) rfl) (
  fm (z_getf (idx := 7) awX5 rfl (by decide) wd_4_12 rfl (by decide +kernel)) (
  fm (z_iload (i := 4) (by decide +kernel)) (
  fm (z_iconst (n := 2) (by decide +kernel) (by decide)) (
  fm (z_invS (idx := 48) (by decide +kernel) wd_4_102 wd_4_103 wd_1_7 wd_4_104 (by decide +kernel) ⟨Nat.le_of_ble_eq_true rfl, Nat.le_of_ble_eq_true rfl⟩) (
  fm (z_iload_n (j := 3) (by decide +kernel) rfl) (
  fm (z_iast (by decide +kernel)) (
  fm (z_aload_n (j := 0) (by decide +kernel) rfl) (
  fm (z_getf (idx := 7) awX5 rfl (by decide) wd_4_12 rfl (by decide +kernel)) (
  fm (z_iload (i := 4) (by decide +kernel)) (
  fm (z_iconst (n := 3) (by decide +kernel) (by decide)) (
  fm (z_invS (idx := 48) (by decide +kernel) wd_4_102 wd_4_103 wd_1_7 wd_4_104 (by decide +kernel) ⟨Nat.le_of_ble_eq_true rfl, Nat.le_of_ble_eq_true rfl⟩) (
  fm (z_iconst (n := 0) (by decide +kernel) (by decide)) (
  fm (z_iast (by decide +kernel)) (
  fm (z_aload_n (j := 0) (by decide +kernel) rfl) (
  fm (z_getf (idx := 7) awX5 rfl (by decide) wd_4_12 rfl (by decide +kernel)) (
  fm (z_iload (i := 4) (by decide +kernel)) (
  fm (z_iconst (n := 4) (by decide +kernel) (by decide)) (
  fm (z_invS (idx := 48) (by decide +kernel) wd_4_102 wd_4_103 wd_1_7 wd_4_104 (by decide +kernel) ⟨Nat.le_of_ble_eq_true rfl, Nat.le_of_ble_eq_true rfl⟩) (
  fm (z_iconst (n := 0) (by decide +kernel) (by decide)) (
  fm (z_iast (by decide +kernel)) (
  fm (z_aload_n (j := 0) (by decide +kernel) rfl) (
  fm (z_getf (idx := 7) awX5 rfl (by decide) wd_4_12 rfl (by decide +kernel)) (
  fm (z_iconst (n := 1) (by decide +kernel) (by decide)) (
  fm (z_dup2 (by decide +kernel)) (
  fm (z_iald (by decide +kernel)) (
  fm (z_iconst (n := 1) (by decide +kernel) (by decide)) (
  fm (z_iadd (by decide +kernel)) (
  fm (z_iast (by decide +kernel)) (
  fm (z_iload (i := 4) (by decide +kernel)) (
  fm (z_iret rfl (by decide +kernel)) (fn))))))))))))))))))))))))))))))))))))))))))))))))))
def kX5_nextOrder : Cd := [(0, s_aload 0 1), (1, s_getf 5 0 4), (4, s_pushi 1 5), (5, s_iald 6), (6, s_istore 1 7), (7, s_iload 1 8), (8, s_pushi 2 9), (9, s_bin (fun x y => x - y) 10), (10, s_istore 2 11), (11, s_iload 2 12), (12, s_if (fun x => x < 0) 38 15), (15, s_aload 0 16), (16, s_getf 5 5 19), (19, s_iload 2 20), (20, s_iald 21), (21, s_aload 0 22), (22, s_getf 5 5 25), (25, s_iload 2 26), (26, s_pushi 1 27), (27, s_bin (fun x y => x + y) 28), (28, s_iald 29), (29, s_icmp (fun x y => x ≤ y) 38 32), (32, s_iinc 2 (-1) 35), (35, s_goto 11), (38, s_iload 2 39), (39, s_if (fun x => 0 ≤ x) 44 42), (42, s_pushi 0 43), (43, s_zret), (44, s_iload 1 45), (45, s_pushi 1 46), (46, s_bin (fun x y => x - y) 47), (47, s_istore 3 48), (48, s_aload 0 49), (49, s_getf 5 5 52), (52, s_iload 3 53), (53, s_iald 54), (54, s_aload 0 55), (55, s_getf 5 5 58), (58, s_iload 2 59), (59, s_iald 60), (60, s_icmp (fun x y => y ≤ x) 69 63), (63, s_iinc 3 (-1) 66), (66, s_goto 48), (69, s_aload 0 70), (70, s_getf 5 5 73), (73, s_iload 2 74), (74, s_iald 75), (75, s_istore 4 77), (77, s_aload 0 78), (78, s_getf 5 5 81), (81, s_iload 2 82), (82, s_aload 0 83), (83, s_getf 5 5 86), (86, s_iload 3 87), (87, s_iald 88), (88, s_iast 89), (89, s_aload 0 90), (90, s_getf 5 5 93), (93, s_iload 3 94), (94, s_iload 4 96), (96, s_iast 97), (97, s_pushi 1 98), (98, s_istore 5 100), (100, s_iload 2 101), (101, s_iload 5 103), (103, s_bin (fun x y => x + y) 104), (104, s_iload 1 105), (105, s_iload 5 107), (107, s_bin (fun x y => x - y) 108), (108, s_icmp (fun x y => y ≤ x) 157 111), (111, s_aload 0 112), (112, s_getf 5 5 115), (115, s_iload 2 116), (116, s_iload 5 118), (118, s_bin (fun x y => x + y) 119), (119, s_iald 120), (120, s_istore 4 122), (122, s_aload 0 123), (123, s_getf 5 5 126), (126, s_iload 2 127), (127, s_iload 5 129), (129, s_bin (fun x y => x + y) 130), (130, s_aload 0 131), (131, s_getf 5 5 134), (134, s_iload 1 135), (135, s_iload 5 137), (137, s_bin (fun x y => x - y) 138), (138, s_iald 139), (139, s_iast 140), (140, s_aload 0 141), (141, s_getf 5 5 144), (144, s_iload 1 145), (145, s_iload 5 147), (147, s_bin (fun x y => x - y) 148), (148, s_iload 4 150), (150, s_iast 151), (151, s_iinc 5 1 154), (154, s_goto 100), (157, s_pushi 1 158), (158, s_zret)]
set_option maxRecDepth 20000 in
theorem zX5_nextOrder : ∀ q ∈ kX5_nextOrder, Snd RX5 cX5_nextOrder 6 (some .boolean) (rmM mX5_nextOrder) q.1 q.2 :=
  fm (z_aload_n (j := 0) (by decide +kernel) rfl) (
  fm (z_getf (idx := 7) awX5 rfl (by decide) wd_4_12 rfl (by decide +kernel)) (
  fm (z_iconst (n := 1) (by decide +kernel) (by decide)) (
  fm (z_iald (by decide +kernel)) (
  fm (z_istore_n (j := 1) (by decide +kernel) rfl (by decide)) (
  fm (z_iload_n (j := 1) (by decide +kernel) rfl) (
  fm (z_iconst (n := 2) (by decide +kernel) (by decide)) (
  fm (z_isub (by decide +kernel)) (
  fm (z_istore_n (j := 2) (by decide +kernel) rfl (by decide)) (
  fm (z_iload_n (j := 2) (by decide +kernel) rfl) (
  fm (z_if_lt (off := 26) (by decide +kernel) (by decide)) (
  fm (z_aload_n (j := 0) (by decide +kernel) rfl) (
  fm (z_getf (idx := 22) awX5 rfl (by decide) wd_4_17 rfl (by decide +kernel)) (
  fm (z_iload_n (j := 2) (by decide +kernel) rfl) (
  fm (z_iald (by decide +kernel)) (
  fm (z_aload_n (j := 0) (by decide +kernel) rfl) (
  fm (z_getf (idx := 22) awX5 rfl (by decide) wd_4_17 rfl (by decide +kernel)) (
  fm (z_iload_n (j := 2) (by decide +kernel) rfl) (
  fm (z_iconst (n := 1) (by decide +kernel) (by decide)) (
  fm (z_iadd (by decide +kernel)) (
  fm (z_iald (by decide +kernel)) (
  fm (z_icmp_le (off := 9) (by decide +kernel) (by decide)) (
  fm (z_iinc (n := (-1)) (by decide +kernel) (by decide) (by decide)) (
  fm (z_goto (off := (-24)) (by decide +kernel) (by decide)) (
  fm (z_iload_n (j := 2) (by decide +kernel) rfl) (
  fm (z_if_ge (off := 5) (by decide +kernel) (by decide)) (
  fm (z_iconst (n := 0) (by decide +kernel) (by decide)) (
  fm (z_zret rfl (by decide +kernel)) (
  fm (z_iload_n (j := 1) (by decide +kernel) rfl) (
  fm (z_iconst (n := 1) (by decide +kernel) (by decide)) (
  fm (z_isub (by decide +kernel)) (
  fm (z_istore_n (j := 3) (by decide +kernel) rfl (by decide)) (
  fm (z_aload_n (j := 0) (by decide +kernel) rfl) (
  fm (z_getf (idx := 22) awX5 rfl (by decide) wd_4_17 rfl (by decide +kernel)) (
  fm (z_iload_n (j := 3) (by decide +kernel) rfl) (
  fm (z_iald (by decide +kernel)) (
  fm (z_aload_n (j := 0) (by decide +kernel) rfl) (
  fm (z_getf (idx := 22) awX5 rfl (by decide) wd_4_17 rfl (by decide +kernel)) (
  fm (z_iload_n (j := 2) (by decide +kernel) rfl) (
  fm (z_iald (by decide +kernel)) (
  fm (z_icmp_ge (off := 9) (by decide +kernel) (by decide)) (
  fm (z_iinc (n := (-1)) (by decide +kernel) (by decide) (by decide)) (
  fm (z_goto (off := (-18)) (by decide +kernel) (by decide)) (
  fm (z_aload_n (j := 0) (by decide +kernel) rfl) (
  fm (z_getf (idx := 22) awX5 rfl (by decide) wd_4_17 rfl (by decide +kernel)) (
  fm (z_iload_n (j := 2) (by decide +kernel) rfl) (
  fm (z_iald (by decide +kernel)) (
  fm (z_istore (i := 4) (by decide +kernel) (by decide)) (
  fm (z_aload_n (j := 0) (by decide +kernel) rfl) (
  fm (z_getf (idx := 22) awX5 rfl (by decide) wd_4_17 rfl (by decide +kernel)) (
  fm (z_iload_n (j := 2) (by decide +kernel) rfl) (
  fm (z_aload_n (j := 0) (by decide +kernel) rfl) (
  fm (z_getf (idx := 22) awX5 rfl (by decide) wd_4_17 rfl (by decide +kernel)) (
  fm (z_iload_n (j := 3) (by decide +kernel) rfl) (
  fm (z_iald (by decide +kernel)) (
  fm (z_iast (by decide +kernel)) (
  fm (z_aload_n (j := 0) (by decide +kernel) rfl) (
  fm (z_getf (idx := 22) awX5 rfl (by decide) wd_4_17 rfl (by decide +kernel)) (
  fm (z_iload_n (j := 3) (by decide +kernel) rfl) (
  fm (z_iload (i := 4) (by decide +kernel)) (
  fm (z_iast (by decide +kernel)) (
  fm (z_iconst (n := 1) (by decide +kernel) (by decide)) (
  fm (z_istore (i := 5) (by decide +kernel) (by decide)) (
  fm (z_iload_n (j := 2) (by decide +kernel) rfl) (
  fm (z_iload (i := 5) (by decide +kernel)) (
  fm (z_iadd (by decide +kernel)) (
  fm (z_iload_n (j := 1) (by decide +kernel) rfl) (
  fm (z_iload (i := 5) (by decide +kernel)) (
  fm (z_isub (by decide +kernel)) (
  fm (z_icmp_ge (off := 49) (by decide +kernel) (by decide)) (
  fm (z_aload_n (j := 0) (by decide +kernel) rfl) (
  fm (z_getf (idx := 22) awX5 rfl (by decide) wd_4_17 rfl (by decide +kernel)) (
  fm (z_iload_n (j := 2) (by decide +kernel) rfl) (
  fm (z_iload (i := 5) (by decide +kernel)) (
  fm (z_iadd (by decide +kernel)) (
  fm (z_iald (by decide +kernel)) (
  fm (z_istore (i := 4) (by decide +kernel) (by decide)) (
  fm (z_aload_n (j := 0) (by decide +kernel) rfl) (
  fm (z_getf (idx := 22) awX5 rfl (by decide) wd_4_17 rfl (by decide +kernel)) (
  fm (z_iload_n (j := 2) (by decide +kernel) rfl) (
  fm (z_iload (i := 5) (by decide +kernel)) (
  fm (z_iadd (by decide +kernel)) (
  fm (z_aload_n (j := 0) (by decide +kernel) rfl) (
  fm (z_getf (idx := 22) awX5 rfl (by decide) wd_4_17 rfl (by decide +kernel)) (
  fm (z_iload_n (j := 1) (by decide +kernel) rfl) (
  fm (z_iload (i := 5) (by decide +kernel)) (
  fm (z_isub (by decide +kernel)) (
  fm (z_iald (by decide +kernel)) (
  fm (z_iast (by decide +kernel)) (
  fm (z_aload_n (j := 0) (by decide +kernel) rfl) (
  fm (z_getf (idx := 22) awX5 rfl (by decide) wd_4_17 rfl (by decide +kernel)) (
  fm (z_iload_n (j := 1) (by decide +kernel) rfl) (
  fm (z_iload (i := 5) (by decide +kernel)) (
  fm (z_isub (by decide +kernel)) (
  fm (z_iload (i := 4) (by decide +kernel)) (
  fm (z_iast (by decide +kernel)) (
  fm (z_iinc (n := 1) (by decide +kernel) (by decide) (by decide)) (
  fm (z_goto (off := (-54)) (by decide +kernel) (by decide)) (
  fm (z_iconst (n := 1) (by decide +kernel) (by decide)) (
  fm (z_zret rfl (by decide +kernel)) (fn))))))))))))))))))))))))))))))))))))))))))))))))))))))))))))))))))))))))))))))))))))))))))))))))))))
def kX5_number : Cd := [(0, s_aload 0 1), (1, s_getf 5 12 4), (4, s_if (fun x => x = 0) 8 7), (7, s_vret), (8, s_aload 0 9), (9, s_aload 0 10), (10, s_getf 5 9 13), (13, s_inv mX5_byteAt 5 1 16), (16, s_invS mX5_isDigit 1 19), (19, s_istore 3 20), (20, s_pushi 0 21), (21, s_istore 4 23), (23, s_aload 0 24), (24, s_getf 5 9 27), (27, s_istore 5 29), (29, s_iload 5 31), (31, s_aload 0 32), (32, s_getf 5 10 35), (35, s_icmp (fun x y => y ≤ x) 79 38), (38, s_iload 3 39), (39, s_if (fun x => x = 0) 79 42), (42, s_iload 4 44), (44, s_pushi 999 47), (47, s_icmp (fun x y => x ≤ y) 55 50), (50, s_iload 4 52), (52, s_goto 71), (55, s_pushi 10 57), (57, s_iload 4 59), (59, s_bin (fun x y => x * y) 60), (60, s_aload 0 61), (61, s_getf 5 7 64), (64, s_iload 5 66), (66, s_iald 67), (67, s_bin (fun x y => x + y) 68), (68, s_pushi 48 70), (70, s_bin (fun x y => x - y) 71), (71, s_istore 4 73), (73, s_iinc 5 1 76), (76, s_goto 29), (79, s_aload 0 80), (80, s_iload 4 82), (82, s_putf .int 5 11 85), (85, s_aload 0 86), (86, s_iload 3 87), (87, s_if (fun x => x = 0) 107 90), (90, s_iload 4 92), (92, s_i2l 93), (93, s_iload 1 94), (94, s_i2l 95), (95, s_iload 2 96), (96, s_i2l 97), (97, s_invS mX5_in 3 100), (100, s_if (fun x => x = 0) 107 103), (103, s_pushi 1 104), (104, s_goto 108), (107, s_pushi 0 108), (108, s_inv mX5_needs 5 1 111), (111, s_vret)]
set_option maxRecDepth 20000 in
theorem zX5_number : ∀ q ∈ kX5_number, Snd RX5 cX5_number 6 none (rmM mX5_number) q.1 q.2 :=
  fm (z_aload_n (j := 0) (by decide +kernel) rfl) (
  fm (z_getf (idx := 218) awX5 rfl (by decide) wd_4_24 rfl (by decide +kernel)) (
  fm (z_if_eq (off := 4) (by decide +kernel) (by decide)) (
  fm (z_vret rfl (by decide +kernel)) (
  fm (z_aload_n (j := 0) (by decide +kernel) rfl) (
  fm (z_aload_n (j := 0) (by decide +kernel) rfl) (
  fm (z_getf (idx := 206) awX5 rfl (by decide) wd_4_21 rfl (by decide +kernel)) (
  fm (z_inv (idx := 209) rfl (by decide +kernel) wd_5_129 wd_5_131 ws_60 wd_1_7 wd_5_132 (by decide +kernel) ⟨Nat.le_of_ble_eq_true rfl, Nat.le_of_ble_eq_true rfl⟩) (
  fm (z_invS (idx := 215) (by decide +kernel) wd_5_138 wd_5_139 wd_1_7 wd_5_140 (by decide +kernel) ⟨Nat.le_of_ble_eq_true rfl, Nat.le_of_ble_eq_true rfl⟩) (
  fm (z_istore_n (j := 3) (by decide +kernel) rfl (by decide)) (
  fm (z_iconst (n := 0) (by decide +kernel) (by decide)) (
  fm (z_istore (i := 4) (by decide +kernel) (by decide)) (
  fm (z_aload_n (j := 0) (by decide +kernel) rfl) (
  fm (z_getf (idx := 206) awX5 rfl (by decide) wd_4_21 rfl (by decide +kernel)) (
  fm (z_istore (i := 5) (by decide +kernel) (by decide)) (
  fm (z_iload (i := 5) (by decide +kernel)) (
  fm (z_aload_n (j := 0) (by decide +kernel) rfl) (
  fm (z_getf (idx := 203) awX5 rfl (by decide) wd_4_22 rfl (by decide +kernel)) (
  fm (z_icmp_ge (off := 44) (by decide +kernel) (by decide)) (
  fm (z_iload_n (j := 3) (by decide +kernel) rfl) (
  fm (z_if_eq (off := 40) (by decide +kernel) (by decide)) (
  fm (z_iload (i := 4) (by decide +kernel)) (
  fm (z_sipush (n := 999) (by decide +kernel) (by decide)) (
  fm (z_icmp_le (off := 8) (by decide +kernel) (by decide)) (
  fm (z_iload (i := 4) (by decide +kernel)) (
  fm (z_goto (off := 19) (by decide +kernel) (by decide)) (
  fm (z_bipush (n := 10) (by decide +kernel) (by decide)) (
  fm (z_iload (i := 4) (by decide +kernel)) (
  fm (z_imul (by decide +kernel)) (
  fm (z_aload_n (j := 0) (by decide +kernel) rfl) (
  fm (z_getf (idx := 25) awX5 rfl (by decide) wd_4_19 rfl (by decide +kernel)) (
  fm (z_iload (i := 5) (by decide +kernel)) (
  fm (z_iald (by decide +kernel)) (
  fm (z_iadd (by decide +kernel)) (
  fm (z_bipush (n := 48) (by decide +kernel) (by decide)) (
  fm (z_isub (by decide +kernel)) (
  fm (z_istore (i := 4) (by decide +kernel) (by decide)) (
  fm (z_iinc (n := 1) (by decide +kernel) (by decide) (by decide)) (
  fm (z_goto (off := (-47)) (by decide +kernel) (by decide)) (
  fm (z_aload_n (j := 0) (by decide +kernel) rfl) (
  fm (z_iload (i := 4) (by decide +kernel)) (
  fm (z_putf (idx := 229) tyX5 tyX5_ok nmX5 awX5 rfl (by decide) wd_4_23 rfl rfl (by decide +kernel) (by decide +kernel)) (
  fm (z_aload_n (j := 0) (by decide +kernel) rfl) (
  fm (z_iload_n (j := 3) (by decide +kernel) rfl) (
  fm (z_if_eq (off := 20) (by decide +kernel) (by decide)) (
  fm (z_iload (i := 4) (by decide +kernel)) (
  fm (z_i2l (by decide +kernel)) (
  fm (z_iload_n (j := 1) (by decide +kernel) rfl) (
  fm (z_i2l (by decide +kernel)) (
  fm (z_iload_n (j := 2) (by decide +kernel) rfl) (
  fm (z_i2l (by decide +kernel)) (
  fm (z_invS (idx := 43) (by decide +kernel) wd_4_72 wd_4_73 wd_1_7 wd_4_74 (by decide +kernel) ⟨Nat.le_of_ble_eq_true rfl, Nat.le_of_ble_eq_true rfl⟩) (
  fm (z_if_eq (off := 7) (by decide +kernel) (by decide)) (
  fm (z_iconst (n := 1) (by decide +kernel) (by decide)) (
  fm (z_goto (off := 4) (by decide +kernel) (by decide)) (
  fm (z_iconst (n := 0) (by decide +kernel) (by decide)) (
  fm (z_inv (idx := 232) rfl (by decide +kernel) wd_5_168 wd_5_170 ws_65 wd_1_7 wd_5_171 (by decide +kernel) ⟨Nat.le_of_ble_eq_true rfl, Nat.le_of_ble_eq_true rfl⟩) (
  fm (z_vret rfl (by decide +kernel)) (fn))))))))))))))))))))))))))))))))))))))))))))))))))))))))))
def kX5_of : Cd := [(0, s_aload 0 1), (1, s_iload 1 2), (2, s_inv mX5_isStall 5 1 5), (5, s_if (fun x => x = 0) 20 8), (8, s_iload 2 9), (9, s_i2l 10), (10, s_pushl 0 11), (11, s_pushl 6 14), (14, s_invS mX5_in 3 17), (17, s_if (fun x => x = 0) 20 27), (20, s_aload 0 21), (21, s_pushi (-1000001) 23), (23, s_inv mX5_finds 5 1 26), (26, s_iret), (27, s_iload 2 28), (28, s_pushi 5 29), (29, s_icmp (fun x y => y ≤ x) 41 32), (32, s_aload 0 33), (33, s_iload 1 34), (34, s_iload 2 35), (35, s_inv mX5_its 5 2 38), (38, s_goto 67), (41, s_iload 2 42), (42, s_pushi 5 43), (43, s_icmp (fun x y => x = y) 46 54), (46, s_aload 0 47), (47, s_iload 1 48), (48, s_inv mX5_price 5 1 51), (51, s_goto 67), (54, s_aload 0 55), (55, s_iload 1 56), (56, s_inv mX5_isGoing 5 1 59), (59, s_if (fun x => x = 0) 66 62), (62, s_pushi 1 63), (63, s_goto 67), (66, s_pushi 0 67), (67, s_iret)]
set_option maxRecDepth 20000 in
theorem zX5_of : ∀ q ∈ kX5_of, Snd RX5 cX5_of 3 (some .int) (rmM mX5_of) q.1 q.2 :=
  fm (z_aload_n (j := 0) (by decide +kernel) rfl) (
  fm (z_iload_n (j := 1) (by decide +kernel) rfl) (
  fm (z_inv (idx := 76) rfl (by decide +kernel) wd_4_115 wd_4_117 ws_32 wd_1_7 wd_4_118 (by decide +kernel) ⟨Nat.le_of_ble_eq_true rfl, Nat.le_of_ble_eq_true rfl⟩) (
  fm (z_if_eq (off := 15) (by decide +kernel) (by decide)) (
  fm (z_iload_n (j := 2) (by decide +kernel) rfl) (
  fm (z_i2l (by decide +kernel)) (
  fm (z_lconst (n := 0) (by decide +kernel) (by decide)) (
  fm (z_ldc2 (i := 65) (by decide +kernel) wd_4_93) (
  fm (z_invS (idx := 43) (by decide +kernel) wd_4_72 wd_4_73 wd_1_7 wd_4_74 (by decide +kernel) ⟨Nat.le_of_ble_eq_true rfl, Nat.le_of_ble_eq_true rfl⟩) (
  fm (z_if_ne (off := 10) (by decide +kernel) (by decide)) (
  fm (z_aload_n (j := 0) (by decide +kernel) rfl) (
  fm (z_ldc (i := 40) (by decide +kernel) wd_4_76) (
  fm (z_inv (idx := 58) rfl (by decide +kernel) wd_4_77 wd_4_79 ws_28 wd_1_7 wd_4_80 (by decide +kernel) ⟨Nat.le_of_ble_eq_true rfl, Nat.le_of_ble_eq_true rfl⟩) (
  fm (z_iret rfl (by decide +kernel)) (
  fm (z_iload_n (j := 2) (by decide +kernel) rfl) (
  fm (z_iconst (n := 5) (by decide +kernel) (by decide)) (
  fm (z_icmp_ge (off := 12) (by decide +kernel) (by decide)) (
  fm (z_aload_n (j := 0) (by decide +kernel) rfl) (
  fm (z_iload_n (j := 1) (by decide +kernel) rfl) (
  fm (z_iload_n (j := 2) (by decide +kernel) rfl) (
  fm (z_inv (idx := 62) rfl (by decide +kernel) wd_4_98 wd_4_100 ws_30 wd_1_7 wd_4_101 (by decide +kernel) ⟨Nat.le_of_ble_eq_true rfl, Nat.le_of_ble_eq_true rfl⟩) (
  fm (z_goto (off := 29) (by decide +kernel) (by decide)) (
  fm (z_iload_n (j := 2) (by decide +kernel) rfl) (
  fm (z_iconst (n := 5) (by decide +kernel) (by decide)) (
  fm (z_icmp_ne (off := 11) (by decide +kernel) (by decide)) (
  fm (z_aload_n (j := 0) (by decide +kernel) rfl) (
  fm (z_iload_n (j := 1) (by decide +kernel) rfl) (
  fm (z_inv (idx := 79) rfl (by decide +kernel) wd_4_119 wd_4_121 ws_33 wd_1_7 wd_4_122 (by decide +kernel) ⟨Nat.le_of_ble_eq_true rfl, Nat.le_of_ble_eq_true rfl⟩) (
  fm (z_goto (off := 16) (by decide +kernel) (by decide)) (
  fm (z_aload_n (j := 0) (by decide +kernel) rfl) (
  fm (z_iload_n (j := 1) (by decide +kernel) rfl) (
  fm (z_inv (idx := 82) rfl (by decide +kernel) wd_4_123 wd_4_125 ws_34 wd_1_7 wd_4_126 (by decide +kernel) ⟨Nat.le_of_ble_eq_true rfl, Nat.le_of_ble_eq_true rfl⟩) (
  fm (z_if_eq (off := 7) (by decide +kernel) (by decide)) (
  fm (z_iconst (n := 1) (by decide +kernel) (by decide)) (
  fm (z_goto (off := 4) (by decide +kernel) (by decide)) (
  fm (z_iconst (n := 0) (by decide +kernel) (by decide)) (
  fm (z_iret rfl (by decide +kernel)) (fn)))))))))))))))))))))))))))))))))))))
def kX5_offer : Cd := [(0, s_aload 0 1), (1, s_getf 5 0 4), (4, s_pushi 4 5), (5, s_iload 2 6), (6, s_bin (fun x y => x + y) 7), (7, s_iald 8), (8, s_istore 3 9), (9, s_iload 3 10), (10, s_aload 0 11), (11, s_getf 5 0 14), (14, s_pushi 4 15), (15, s_iload 2 16), (16, s_pushi 1 17), (17, s_bin (fun x y => x + y) 18), (18, s_pushi 12 20), (20, s_rem 21), (21, s_bin (fun x y => x + y) 22), (22, s_iald 23), (23, s_bin (fun x y => x + y) 24), (24, s_istore 4 26), (26, s_aload 0 27), (27, s_iload 1 28), (28, s_pushi 0 29), (29, s_inv mX5_its 5 2 32), (32, s_sw [(1, 72), (2, 121), (3, 75), (4, 121), (5, 95), (6, 99)] 121), (72, s_iload 4 74), (74, s_iret), (75, s_aload 0 76), (76, s_getf 5 0 79), (79, s_pushi 16 81), (81, s_iload 2 82), (82, s_bin (fun x y => x + y) 83), (83, s_iald 84), (84, s_pushi 1 85), (85, s_icmp (fun x y => x = y) 88 93), (88, s_iload 4 90), (90, s_goto 94), (93, s_pushi 0 94), (94, s_iret), (95, s_iload 3 96), (96, s_pushi 2 97), (97, s_div 98), (98, s_iret), (99, s_iload 2 100), (100, s_aload 0 101), (101, s_getf 5 0 104), (104, s_pushi 2 105), (105, s_iald 106), (106, s_icmp (fun x y => x = y) 109 117), (109, s_pushi 3 110), (110, s_iload 3 111), (111, s_pushi 2 112), (112, s_div 113), (113, s_bin (fun x y => x * y) 114), (114, s_goto 120), (117, s_iload 3 118), (118, s_pushi 2 119), (119, s_div 120), (120, s_iret), (121, s_iload 3 122), (122, s_iret)]
set_option maxRecDepth 20000 in
theorem zX5_offer : ∀ q ∈ kX5_offer, Snd RX5 cX5_offer 5 (some .int) (rmM mX5_offer) q.1 q.2 :=
  fm (z_aload_n (j := 0) (by decide +kernel) rfl) (
  fm (z_getf (idx := 7) awX5 rfl (by decide) wd_4_12 rfl (by decide +kernel)) (
  fm (z_iconst (n := 4) (by decide +kernel) (by decide)) (
  fm (z_iload_n (j := 2) (by decide +kernel) rfl) (
  fm (z_iadd (by decide +kernel)) (
  fm (z_iald (by decide +kernel)) (
  fm (z_istore_n (j := 3) (by decide +kernel) rfl (by decide)) (
  fm (z_iload_n (j := 3) (by decide +kernel) rfl) (
  fm (z_aload_n (j := 0) (by decide +kernel) rfl) (
  fm (z_getf (idx := 7) awX5 rfl (by decide) wd_4_12 rfl (by decide +kernel)) (
  fm (z_iconst (n := 4) (by decide +kernel) (by decide)) (
  fm (z_iload_n (j := 2) (by decide +kernel) rfl) (
  fm (z_iconst (n := 1) (by decide +kernel) (by decide)) (
  fm (z_iadd (by decide +kernel)) (
  fm (z_bipush (n := 12) (by decide +kernel) (by decide)) (
  fm (z_irem (by decide +kernel)) (
  fm (z_iadd (by decide +kernel)) (
  fm (z_iald (by decide +kernel)) (
  fm (z_iadd (by decide +kernel)) (
  fm (z_istore (i := 4) (by decide +kernel) (by decide)) (
  fm (z_aload_n (j := 0) (by decide +kernel) rfl) (
  fm (z_iload_n (j := 1) (by decide +kernel) rfl) (
  fm (z_iconst (n := 0) (by decide +kernel) (by decide)) (
  fm (z_inv (idx := 62) rfl (by decide +kernel) wd_4_98 wd_4_100 ws_30 wd_1_7 wd_4_101 (by decide +kernel) ⟨Nat.le_of_ble_eq_true rfl, Nat.le_of_ble_eq_true rfl⟩) (
  fm (z_tsw (dflt := 89) (lo := 1) (hi := 6) (offs := #[40, 89, 43, 89, 63, 67]) (len := 40) (by decide +kernel) (by decide) rfl (by decide) (by decide +kernel)) (
  fm (z_iload (i := 4) (by decide +kernel)) (
  fm (z_iret rfl (by decide +kernel)) (
  fm (z_aload_n (j := 0) (by decide +kernel) rfl) (
  fm (z_getf (idx := 7) awX5 rfl (by decide) wd_4_12 rfl (by decide +kernel)) (
  fm (z_bipush (n := 16) (by decide +kernel) (by decide)) (
  fm (z_iload_n (j := 2) (by decide +kernel) rfl) (
  fm (z_iadd (by decide +kernel)) (
  fm (z_iald (by decide +kernel)) (
  fm (z_iconst (n := 1) (by decide +kernel) (by decide)) (
  fm (z_icmp_ne (off := 8) (by decide +kernel) (by decide)) (
  fm (z_iload (i := 4) (by decide +kernel)) (
  fm (z_goto (off := 4) (by decide +kernel) (by decide)) (
  fm (z_iconst (n := 0) (by decide +kernel) (by decide)) (
  fm (z_iret rfl (by decide +kernel)) (
  fm (z_iload_n (j := 3) (by decide +kernel) rfl) (
  fm (z_iconst (n := 2) (by decide +kernel) (by decide)) (
  fm (z_idiv (by decide +kernel)) (
  fm (z_iret rfl (by decide +kernel)) (
  fm (z_iload_n (j := 2) (by decide +kernel) rfl) (
  fm (z_aload_n (j := 0) (by decide +kernel) rfl) (
  fm (z_getf (idx := 7) awX5 rfl (by decide) wd_4_12 rfl (by decide +kernel)) (
  fm (z_iconst (n := 2) (by decide +kernel) (by decide)) (
  fm (z_iald (by decide +kernel)) (
  fm (z_icmp_ne (off := 11) (by decide +kernel) (by decide)) (
  fm (z_iconst (n := 3) (by decide +kernel) (by decide)) (
  fm (z_iload_n (j := 3) (by decide +kernel) rfl) (
  fm (z_iconst (n := 2) (by decide +kernel) (by decide)) (
  fm (z_idiv (by decide +kernel)) (
  fm (z_imul (by decide +kernel)) (
  fm (z_goto (off := 6) (by decide +kernel) (by decide)) (
  fm (z_iload_n (j := 3) (by decide +kernel) rfl) (
  fm (z_iconst (n := 2) (by decide +kernel) (by decide)) (
  fm (z_idiv (by decide +kernel)) (
  fm (z_iret rfl (by decide +kernel)) (
  fm (z_iload_n (j := 3) (by decide +kernel) rfl) (
  fm (z_iret rfl (by decide +kernel)) (fn)))))))))))))))))))))))))))))))))))))))))))))))))))))))))))))
def kX5_offers : Cd := [(0, s_aload 0 1), (1, s_iload 1 2), (2, s_inv mX5_isStall 5 1 5), (5, s_if (fun x => x = 0) 24 8), (8, s_iload 2 9), (9, s_invS mX5_isPlace 1 12), (12, s_if (fun x => x = 0) 24 15), (15, s_aload 0 16), (16, s_iload 1 17), (17, s_iload 2 18), (18, s_inv mX5_offer 5 2 21), (21, s_goto 30), (24, s_aload 0 25), (25, s_pushi (-1000001) 27), (27, s_inv mX5_finds 5 1 30), (30, s_iret)]
set_option maxRecDepth 20000 in
theorem zX5_offers : ∀ q ∈ kX5_offers, Snd RX5 cX5_offers 3 (some .int) (rmM mX5_offers) q.1 q.2 :=
  fm (z_aload_n (j := 0) (by decide +kernel) rfl) (
  fm (z_iload_n (j := 1) (by decide +kernel) rfl) (
  fm (z_inv (idx := 76) rfl (by decide +kernel) wd_4_115 wd_4_117 ws_32 wd_1_7 wd_4_118 (by decide +kernel) ⟨Nat.le_of_ble_eq_true rfl, Nat.le_of_ble_eq_true rfl⟩) (
  fm (z_if_eq (off := 19) (by decide +kernel) (by decide)) (
  fm (z_iload_n (j := 2) (by decide +kernel) rfl) (
  fm (z_invS (idx := 52) (by decide +kernel) wd_4_68 wd_4_69 wd_1_7 wd_4_70 (by decide +kernel) ⟨Nat.le_of_ble_eq_true rfl, Nat.le_of_ble_eq_true rfl⟩) (
  fm (z_if_eq (off := 12) (by decide +kernel) (by decide)) (
  fm (z_aload_n (j := 0) (by decide +kernel) rfl) (
  fm (z_iload_n (j := 1) (by decide +kernel) rfl) (
  fm (z_iload_n (j := 2) (by decide +kernel) rfl) (
  fm (z_inv (idx := 91) rfl (by decide +kernel) wd_4_144 wd_4_146 ws_36 wd_1_7 wd_4_147 (by decide +kernel) ⟨Nat.le_of_ble_eq_true rfl, Nat.le_of_ble_eq_true rfl⟩) (
  fm (z_goto (off := 9) (by decide +kernel) (by decide)) (
  fm (z_aload_n (j := 0) (by decide +kernel) rfl) (
  fm (z_ldc (i := 40) (by decide +kernel) wd_4_76) (
  fm (z_inv (idx := 58) rfl (by decide +kernel) wd_4_77 wd_4_79 ws_28 wd_1_7 wd_4_80 (by decide +kernel) ⟨Nat.le_of_ble_eq_true rfl, Nat.le_of_ble_eq_true rfl⟩) (
  fm (z_iret rfl (by decide +kernel)) (fn))))))))))))))))
def kX5_order : Cd := [(0, s_aload 0 1), (1, s_iload 1 2), (2, s_inv mX5_isStall 5 1 5), (5, s_if (fun x => x = 0) 20 8), (8, s_iload 2 9), (9, s_i2l 10), (10, s_pushl 1 11), (11, s_pushl 24 14), (14, s_invS mX5_in 3 17), (17, s_if (fun x => x = 0) 20 25), (20, s_pushi (-1000001) 22), (22, s_goto 30), (25, s_aload 0 26), (26, s_iload 2 27), (27, s_inv mX5_orderWrong 5 1 30), (30, s_istore 3 31), (31, s_iload 3 32), (32, s_if (fun x => x = 0) 41 35), (35, s_aload 0 36), (36, s_iload 3 37), (37, s_inv mX5_finds 5 1 40), (40, s_iret), (41, s_aload 0 42), (42, s_iload 1 43), (43, s_iload 2 44), (44, s_inv mX5_bestOrder 5 2 47), (47, s_istore 4 49), (49, s_aload 0 50), (50, s_getf 5 6 53), (53, s_iret)]
set_option maxRecDepth 20000 in
theorem zX5_order : ∀ q ∈ kX5_order, Snd RX5 cX5_order 5 (some .int) (rmM mX5_order) q.1 q.2 :=
  fm (z_aload_n (j := 0) (by decide +kernel) rfl) (
  fm (z_iload_n (j := 1) (by decide +kernel) rfl) (
  fm (z_inv (idx := 76) rfl (by decide +kernel) wd_4_115 wd_4_117 ws_32 wd_1_7 wd_4_118 (by decide +kernel) ⟨Nat.le_of_ble_eq_true rfl, Nat.le_of_ble_eq_true rfl⟩) (
  fm (z_if_eq (off := 15) (by decide +kernel) (by decide)) (
  fm (z_iload_n (j := 2) (by decide +kernel) rfl) (
  fm (z_i2l (by decide +kernel)) (
  fm (z_lconst (n := 1) (by decide +kernel) (by decide)) (
  fm (z_ldc2 (i := 161) (by decide +kernel) wd_5_5) (
  fm (z_invS (idx := 43) (by decide +kernel) wd_4_72 wd_4_73 wd_1_7 wd_4_74 (by decide +kernel) ⟨Nat.le_of_ble_eq_true rfl, Nat.le_of_ble_eq_true rfl⟩) (
  fm (z_if_ne (off := 8) (by decide +kernel) (by decide)) (
  fm (z_ldc (i := 40) (by decide +kernel) wd_4_76) (
  fm (z_goto (off := 8) (by decide +kernel) (by decide)) (
  fm (z_aload_n (j := 0) (by decide +kernel) rfl) (
  fm (z_iload_n (j := 2) (by decide +kernel) rfl) (
  fm (z_inv (idx := 163) rfl (by decide +kernel) wd_5_6 wd_5_8 ws_48 wd_1_7 wd_5_9 (by decide +kernel) ⟨Nat.le_of_ble_eq_true rfl, Nat.le_of_ble_eq_true rfl⟩) (
  fm (z_istore_n (j := 3) (by decide +kernel) rfl (by decide)) (
  fm (z_iload_n (j := 3) (by decide +kernel) rfl) (
  fm (z_if_eq (off := 9) (by decide +kernel) (by decide)) (
  fm (z_aload_n (j := 0) (by decide +kernel) rfl) (
  fm (z_iload_n (j := 3) (by decide +kernel) rfl) (
  fm (z_inv (idx := 58) rfl (by decide +kernel) wd_4_77 wd_4_79 ws_28 wd_1_7 wd_4_80 (by decide +kernel) ⟨Nat.le_of_ble_eq_true rfl, Nat.le_of_ble_eq_true rfl⟩) (
  fm (z_iret rfl (by decide +kernel)) (
  fm (z_aload_n (j := 0) (by decide +kernel) rfl) (
  fm (z_iload_n (j := 1) (by decide +kernel) rfl) (
  fm (z_iload_n (j := 2) (by decide +kernel) rfl) (
  fm (z_inv (idx := 166) rfl (by decide +kernel) wd_5_11 wd_5_13 ws_49 wd_1_7 wd_5_14 (by decide +kernel) ⟨Nat.le_of_ble_eq_true rfl, Nat.le_of_ble_eq_true rfl⟩) (
  fm (z_istore (i := 4) (by decide +kernel) (by decide)) (
  fm (z_aload_n (j := 0) (by decide +kernel) rfl) (
  fm (z_getf (idx := 153) awX5 rfl (by decide) wd_4_18 rfl (by decide +kernel)) (
  fm (z_iret rfl (by decide +kernel)) (fn))))))))))))))))))))))))))))))
def kX5_orderWrong : Cd := [(0, s_aload 0 1), (1, s_iload 1 2), (2, s_inv mX5_isTooLate 5 1 5), (5, s_if (fun x => x = 0) 13 8), (8, s_pushi (-1000005) 10), (10, s_goto 30), (13, s_aload 0 14), (14, s_getf 5 0 17), (17, s_pushi 1 18), (18, s_iald 19), (19, s_pushi 6 21), (21, s_icmp (fun x y => x ≤ y) 29 24), (24, s_pushi (-1000007) 26), (26, s_goto 30), (29, s_pushi 0 30), (30, s_iret)]
set_option maxRecDepth 20000 in
theorem zX5_orderWrong : ∀ q ∈ kX5_orderWrong, Snd RX5 cX5_orderWrong 2 (some .int) (rmM mX5_orderWrong) q.1 q.2 :=
  fm (z_aload_n (j := 0) (by decide +kernel) rfl) (
  fm (z_iload_n (j := 1) (by decide +kernel) rfl) (
  fm (z_inv (idx := 119) rfl (by decide +kernel) wd_4_158 wd_4_160 ws_37 wd_1_7 wd_4_161 (by decide +kernel) ⟨Nat.le_of_ble_eq_true rfl, Nat.le_of_ble_eq_true rfl⟩) (
  fm (z_if_eq (off := 8) (by decide +kernel) (by decide)) (
  fm (z_ldc (i := 70) (by decide +kernel) wd_4_105) (
  fm (z_goto (off := 20) (by decide +kernel) (by decide)) (
  fm (z_aload_n (j := 0) (by decide +kernel) rfl) (
  fm (z_getf (idx := 7) awX5 rfl (by decide) wd_4_12 rfl (by decide +kernel)) (
  fm (z_iconst (n := 1) (by decide +kernel) (by decide)) (
  fm (z_iald (by decide +kernel)) (
  fm (z_bipush (n := 6) (by decide +kernel) (by decide)) (
  fm (z_icmp_le (off := 8) (by decide +kernel) (by decide)) (
  fm (z_ldc (i := 146) (by decide +kernel) wd_5_10) (
  fm (z_goto (off := 4) (by decide +kernel) (by decide)) (
  fm (z_iconst (n := 0) (by decide +kernel) (by decide)) (
  fm (z_iret rfl (by decide +kernel)) (fn))))))))))))))))
def kX5_passes : Cd := [(0, s_aload 0 1), (1, s_iload 1 2), (2, s_inv mX5_isStall 5 1 5), (5, s_if (fun x => x = 0) 8 15), (8, s_aload 0 9), (9, s_pushi (-1000001) 11), (11, s_inv mX5_finds 5 1 14), (14, s_iret), (15, s_aload 0 16), (16, s_pushi 0 17), (17, s_inv mX5_staying 5 1 20), (20, s_istore 2 21), (21, s_iload 2 22), (22, s_iload 1 23), (23, s_invS mX5_has 2 26), (26, s_if (fun x => x = 0) 33 29), (29, s_pushi 0 30), (30, s_goto 49), (33, s_aload 0 34), (34, s_iload 1 35), (35, s_pushi 1 36), (36, s_inv mX5_its 5 2 39), (39, s_aload 0 40), (40, s_iload 2 41), (41, s_inv mX5_placesOf 5 1 44), (44, s_invS mX5_farFrom 2 47), (47, s_pushi 1 48), (48, s_bin (fun x y => x - y) 49), (49, s_iret)]
set_option maxRecDepth 20000 in
theorem zX5_passes : ∀ q ∈ kX5_passes, Snd RX5 cX5_passes 3 (some .int) (rmM mX5_passes) q.1 q.2 :=
  fm (z_aload_n (j := 0) (by decide +kernel) rfl) (
  fm (z_iload_n (j := 1) (by decide +kernel) rfl) (
  fm (z_inv (idx := 76) rfl (by decide +kernel) wd_4_115 wd_4_117 ws_32 wd_1_7 wd_4_118 (by decide +kernel) ⟨Nat.le_of_ble_eq_true rfl, Nat.le_of_ble_eq_true rfl⟩) (
  fm (z_if_ne (off := 10) (by decide +kernel) (by decide)) (
  fm (z_aload_n (j := 0) (by decide +kernel) rfl) (
  fm (z_ldc (i := 40) (by decide +kernel) wd_4_76) (
  fm (z_inv (idx := 58) rfl (by decide +kernel) wd_4_77 wd_4_79 ws_28 wd_1_7 wd_4_80 (by decide +kernel) ⟨Nat.le_of_ble_eq_true rfl, Nat.le_of_ble_eq_true rfl⟩) (
  fm (z_iret rfl (by decide +kernel)) (
  fm (z_aload_n (j := 0) (by decide +kernel) rfl) (
  fm (z_iconst (n := 0) (by decide +kernel) (by decide)) (
  fm (z_inv (idx := 103) rfl (by decide +kernel) wd_4_174 wd_4_176 ws_41 wd_1_7 wd_4_177 (by decide +kernel) ⟨Nat.le_of_ble_eq_true rfl, Nat.le_of_ble_eq_true rfl⟩) (
  fm (z_istore_n (j := 2) (by decide +kernel) rfl (by decide)) (
  fm (z_iload_n (j := 2) (by decide +kernel) rfl) (
  fm (z_iload_n (j := 1) (by decide +kernel) rfl) (
  fm (z_invS (idx := 99) (by decide +kernel) wd_4_182 wd_4_183 wd_1_7 wd_4_184 (by decide +kernel) ⟨Nat.le_of_ble_eq_true rfl, Nat.le_of_ble_eq_true rfl⟩) (
  fm (z_if_eq (off := 7) (by decide +kernel) (by decide)) (
  fm (z_iconst (n := 0) (by decide +kernel) (by decide)) (
  fm (z_goto (off := 19) (by decide +kernel) (by decide)) (
  fm (z_aload_n (j := 0) (by decide +kernel) rfl) (
  fm (z_iload_n (j := 1) (by decide +kernel) rfl) (
  fm (z_iconst (n := 1) (by decide +kernel) (by decide)) (
  fm (z_inv (idx := 62) rfl (by decide +kernel) wd_4_98 wd_4_100 ws_30 wd_1_7 wd_4_101 (by decide +kernel) ⟨Nat.le_of_ble_eq_true rfl, Nat.le_of_ble_eq_true rfl⟩) (
  fm (z_aload_n (j := 0) (by decide +kernel) rfl) (
  fm (z_iload_n (j := 2) (by decide +kernel) rfl) (
  fm (z_inv (idx := 107) rfl (by decide +kernel) wd_4_178 wd_4_180 ws_42 wd_1_7 wd_4_181 (by decide +kernel) ⟨Nat.le_of_ble_eq_true rfl, Nat.le_of_ble_eq_true rfl⟩) (
  fm (z_invS (idx := 110) (by decide +kernel) wd_4_185 wd_4_186 wd_1_7 wd_4_187 (by decide +kernel) ⟨Nat.le_of_ble_eq_true rfl, Nat.le_of_ble_eq_true rfl⟩) (
  fm (z_iconst (n := 1) (by decide +kernel) (by decide)) (
  fm (z_isub (by decide +kernel)) (
  fm (z_iret rfl (by decide +kernel)) (fn)))))))))))))))))))))))))))))
def kX5_perhaps : Cd := [(0, s_iload 1 1), (1, s_if (fun x => x = 0) 4 7), (4, s_iload 4 6), (6, s_iret), (7, s_aload 0 8), (8, s_pushi 1 9), (9, s_inv mX5_needs 5 1 12), (12, s_aload 0 13), (13, s_iload 2 14), (14, s_iload 3 15), (15, s_inv mX5_number 5 2 18), (18, s_aload 0 19), (19, s_getf 5 11 22), (22, s_iret)]
set_option maxRecDepth 20000 in
theorem zX5_perhaps : ∀ q ∈ kX5_perhaps, Snd RX5 cX5_perhaps 5 (some .int) (rmM mX5_perhaps) q.1 q.2 :=
  fm (z_iload_n (j := 1) (by decide +kernel) rfl) (
  fm (z_if_ne (off := 6) (by decide +kernel) (by decide)) (
  fm (z_iload (i := 4) (by decide +kernel)) (
  fm (z_iret rfl (by decide +kernel)) (
  fm (z_aload_n (j := 0) (by decide +kernel) rfl) (
  fm (z_iconst (n := 1) (by decide +kernel) (by decide)) (
  fm (z_inv (idx := 232) rfl (by decide +kernel) wd_5_168 wd_5_170 ws_65 wd_1_7 wd_5_171 (by decide +kernel) ⟨Nat.le_of_ble_eq_true rfl, Nat.le_of_ble_eq_true rfl⟩) (
  fm (z_aload_n (j := 0) (by decide +kernel) rfl) (
  fm (z_iload_n (j := 2) (by decide +kernel) rfl) (
  fm (z_iload_n (j := 3) (by decide +kernel) rfl) (
  fm (z_inv (idx := 254) rfl (by decide +kernel) wd_5_182 wd_5_184 ws_68 wd_1_7 wd_5_185 (by decide +kernel) ⟨Nat.le_of_ble_eq_true rfl, Nat.le_of_ble_eq_true rfl⟩) (
  fm (z_aload_n (j := 0) (by decide +kernel) rfl) (
  fm (z_getf (idx := 229) awX5 rfl (by decide) wd_4_23 rfl (by decide +kernel)) (
  fm (z_iret rfl (by decide +kernel)) (fn))))))))))))))
def kX5_placeOf : Cd := [(0, s_iload 1 1), (1, s_invS mX5_isPlace 1 4), (4, s_if (fun x => x = 0) 19 7), (7, s_iload 2 8), (8, s_i2l 9), (9, s_pushl 0 10), (10, s_pushl 2 13), (13, s_invS mX5_in 3 16), (16, s_if (fun x => x = 0) 19 26), (19, s_aload 0 20), (20, s_pushi (-1000001) 22), (22, s_inv mX5_finds 5 1 25), (25, s_iret), (26, s_iload 2 27), (27, s_if (fun x => x = 0) 30 41), (30, s_aload 0 31), (31, s_getf 5 0 34), (34, s_pushi 4 35), (35, s_iload 1 36), (36, s_bin (fun x y => x + y) 37), (37, s_iald 38), (38, s_goto 63), (41, s_iload 2 42), (42, s_pushi 1 43), (43, s_icmp (fun x y => x = y) 46 58), (46, s_aload 0 47), (47, s_getf 5 0 50), (50, s_pushi 16 52), (52, s_iload 1 53), (53, s_bin (fun x y => x + y) 54), (54, s_iald 55), (55, s_goto 63), (58, s_aload 0 59), (59, s_iload 1 60), (60, s_inv mX5_stallAt 5 1 63), (63, s_iret)]
set_option maxRecDepth 20000 in
theorem zX5_placeOf : ∀ q ∈ kX5_placeOf, Snd RX5 cX5_placeOf 3 (some .int) (rmM mX5_placeOf) q.1 q.2 :=
  fm (z_iload_n (j := 1) (by decide +kernel) rfl) (
  fm (z_invS (idx := 52) (by decide +kernel) wd_4_68 wd_4_69 wd_1_7 wd_4_70 (by decide +kernel) ⟨Nat.le_of_ble_eq_true rfl, Nat.le_of_ble_eq_true rfl⟩) (
  fm (z_if_eq (off := 15) (by decide +kernel) (by decide)) (
  fm (z_iload_n (j := 2) (by decide +kernel) rfl) (
  fm (z_i2l (by decide +kernel)) (
  fm (z_lconst (n := 0) (by decide +kernel) (by decide)) (
  fm (z_ldc2 (i := 94) (by decide +kernel) wd_4_152) (
  fm (z_invS (idx := 43) (by decide +kernel) wd_4_72 wd_4_73 wd_1_7 wd_4_74 (by decide +kernel) ⟨Nat.le_of_ble_eq_true rfl, Nat.le_of_ble_eq_true rfl⟩) (
  fm (z_if_ne (off := 10) (by decide +kernel) (by decide)) (
  fm (z_aload_n (j := 0) (by decide +kernel) rfl) (
  fm (z_ldc (i := 40) (by decide +kernel) wd_4_76) (
  fm (z_inv (idx := 58) rfl (by decide +kernel) wd_4_77 wd_4_79 ws_28 wd_1_7 wd_4_80 (by decide +kernel) ⟨Nat.le_of_ble_eq_true rfl, Nat.le_of_ble_eq_true rfl⟩) (
  fm (z_iret rfl (by decide +kernel)) (
  fm (z_iload_n (j := 2) (by decide +kernel) rfl) (
  fm (z_if_ne (off := 14) (by decide +kernel) (by decide)) (
  fm (z_aload_n (j := 0) (by decide +kernel) rfl) (
  fm (z_getf (idx := 7) awX5 rfl (by decide) wd_4_12 rfl (by decide +kernel)) (
  fm (z_iconst (n := 4) (by decide +kernel) (by decide)) (
  fm (z_iload_n (j := 1) (by decide +kernel) rfl) (
  fm (z_iadd (by decide +kernel)) (
  fm (z_iald (by decide +kernel)) (
  fm (z_goto (off := 25) (by decide +kernel) (by decide)) (
  fm (z_iload_n (j := 2) (by decide +kernel) rfl) (
  fm (z_iconst (n := 1) (by decide +kernel) (by decide)) (
  fm (z_icmp_ne (off := 15) (by decide +kernel) (by decide)) (
  fm (z_aload_n (j := 0) (by decide +kernel) rfl) (
  fm (z_getf (idx := 7) awX5 rfl (by decide) wd_4_12 rfl (by decide +kernel)) (
  fm (z_bipush (n := 16) (by decide +kernel) (by decide)) (
  fm (z_iload_n (j := 1) (by decide +kernel) rfl) (
  fm (z_iadd (by decide +kernel)) (
  fm (z_iald (by decide +kernel)) (
  fm (z_goto (off := 8) (by decide +kernel) (by decide)) (
  fm (z_aload_n (j := 0) (by decide +kernel) rfl) (
  fm (z_iload_n (j := 1) (by decide +kernel) rfl) (
  fm (z_inv (idx := 67) rfl (by decide +kernel) wd_4_94 wd_4_96 ws_29 wd_1_7 wd_4_97 (by decide +kernel) ⟨Nat.le_of_ble_eq_true rfl, Nat.le_of_ble_eq_true rfl⟩) (
  fm (z_iret rfl (by decide +kernel)) (fn))))))))))))))))))))))))))))))))))))
def kX5_placesOf : Cd := [(0, s_pushi 0 1), (1, s_istore 2 2), (2, s_pushi 0 3), (3, s_istore 3 4), (4, s_iload 3 5), (5, s_aload 0 6), (6, s_getf 5 0 9), (9, s_pushi 1 10), (10, s_iald 11), (11, s_icmp (fun x y => y ≤ x) 43 14), (14, s_iload 2 15), (15, s_iload 1 16), (16, s_iload 3 17), (17, s_invS mX5_has 2 20), (20, s_if (fun x => x = 0) 34 23), (23, s_pushi 1 24), (24, s_aload 0 25), (25, s_iload 3 26), (26, s_pushi 1 27), (27, s_inv mX5_its 5 2 30), (30, s_bin (fun x y => x <<< (y &&& 31)) 31), (31, s_goto 35), (34, s_pushi 0 35), (35, s_bin (fun x y => x ||| y) 36), (36, s_istore 2 37), (37, s_iinc 3 1 40), (40, s_goto 4), (43, s_iload 2 44), (44, s_iret)]
set_option maxRecDepth 20000 in
theorem zX5_placesOf : ∀ q ∈ kX5_placesOf, Snd RX5 cX5_placesOf 4 (some .int) (rmM mX5_placesOf) q.1 q.2 :=
  fm (z_iconst (n := 0) (by decide +kernel) (by decide)) (
  fm (z_istore_n (j := 2) (by decide +kernel) rfl (by decide)) (
  fm (z_iconst (n := 0) (by decide +kernel) (by decide)) (
  fm (z_istore_n (j := 3) (by decide +kernel) rfl (by decide)) (
  fm (z_iload_n (j := 3) (by decide +kernel) rfl) (
  fm (z_aload_n (j := 0) (by decide +kernel) rfl) (
  fm (z_getf (idx := 7) awX5 rfl (by decide) wd_4_12 rfl (by decide +kernel)) (
  fm (z_iconst (n := 1) (by decide +kernel) (by decide)) (
  fm (z_iald (by decide +kernel)) (
  fm (z_icmp_ge (off := 32) (by decide +kernel) (by decide)) (
  fm (z_iload_n (j := 2) (by decide +kernel) rfl) (
  fm (z_iload_n (j := 1) (by decide +kernel) rfl) (
  fm (z_iload_n (j := 3) (by decide +kernel) rfl) (
  fm (z_invS (idx := 99) (by decide +kernel) wd_4_182 wd_4_183 wd_1_7 wd_4_184 (by decide +kernel) ⟨Nat.le_of_ble_eq_true rfl, Nat.le_of_ble_eq_true rfl⟩) (
  fm (z_if_eq (off := 14) (by decide +kernel) (by decide)) (
  fm (z_iconst (n := 1) (by decide +kernel) (by decide)) (
  fm (z_aload_n (j := 0) (by decide +kernel) rfl) (
  fm (z_iload_n (j := 3) (by decide +kernel) rfl) (
  fm (z_iconst (n := 1) (by decide +kernel) (by decide)) (
  fm (z_inv (idx := 62) rfl (by decide +kernel) wd_4_98 wd_4_100 ws_30 wd_1_7 wd_4_101 (by decide +kernel) ⟨Nat.le_of_ble_eq_true rfl, Nat.le_of_ble_eq_true rfl⟩) (
  fm (z_ishl (by decide +kernel)) (
  fm (z_goto (off := 4) (by decide +kernel) (by decide)) (
  fm (z_iconst (n := 0) (by decide +kernel) (by decide)) (
  fm (z_ior (by decide +kernel)) (
  fm (z_istore_n (j := 2) (by decide +kernel) rfl (by decide)) (
  fm (z_iinc (n := 1) (by decide +kernel) (by decide) (by decide)) (
  fm (z_goto (off := (-36)) (by decide +kernel) (by decide)) (
  fm (z_iload_n (j := 2) (by decide +kernel) rfl) (
  fm (z_iret rfl (by decide +kernel)) (fn)))))))))))))))))))))))))))))
def kX5_price : Cd := [(0, s_aload 0 1), (1, s_iload 1 2), (2, s_pushi 0 3), (3, s_inv mX5_its 5 2 6), (6, s_istore 2 7), (7, s_iload 2 8), (8, s_pushi 3 9), (9, s_icmp (fun x y => x = y) 12 16), (12, s_pushi 3 13), (13, s_goto 41), (16, s_iload 2 17), (17, s_pushi 6 19), (19, s_icmp (fun x y => x = y) 22 26), (22, s_pushi 5 23), (23, s_goto 41), (26, s_iload 2 27), (27, s_pushi 2 28), (28, s_icmp (fun x y => x = y) 36 31), (31, s_iload 2 32), (32, s_pushi 4 33), (33, s_icmp (fun x y => x = y) 36 40), (36, s_pushi 1 37), (37, s_goto 41), (40, s_pushi 2 41), (41, s_iret)]
set_option maxRecDepth 20000 in
theorem zX5_price : ∀ q ∈ kX5_price, Snd RX5 cX5_price 3 (some .int) (rmM mX5_price) q.1 q.2 :=
  fm (z_aload_n (j := 0) (by decide +kernel) rfl) (
  fm (z_iload_n (j := 1) (by decide +kernel) rfl) (
  fm (z_iconst (n := 0) (by decide +kernel) (by decide)) (
  fm (z_inv (idx := 62) rfl (by decide +kernel) wd_4_98 wd_4_100 ws_30 wd_1_7 wd_4_101 (by decide +kernel) ⟨Nat.le_of_ble_eq_true rfl, Nat.le_of_ble_eq_true rfl⟩) (
  fm (z_istore_n (j := 2) (by decide +kernel) rfl (by decide)) (
  fm (z_iload_n (j := 2) (by decide +kernel) rfl) (
  fm (z_iconst (n := 3) (by decide +kernel) (by decide)) (
  fm (z_icmp_ne (off := 7) (by decide +kernel) (by decide)) (
  fm (z_iconst (n := 3) (by decide +kernel) (by decide)) (
  fm (z_goto (off := 28) (by decide +kernel) (by decide)) (
  fm (z_iload_n (j := 2) (by decide +kernel) rfl) (
  fm (z_bipush (n := 6) (by decide +kernel) (by decide)) (
  fm (z_icmp_ne (off := 7) (by decide +kernel) (by decide)) (
  fm (z_iconst (n := 5) (by decide +kernel) (by decide)) (
  fm (z_goto (off := 18) (by decide +kernel) (by decide)) (
  fm (z_iload_n (j := 2) (by decide +kernel) rfl) (
  fm (z_iconst (n := 2) (by decide +kernel) (by decide)) (
  fm (z_icmp_eq (off := 8) (by decide +kernel) (by decide)) (
  fm (z_iload_n (j := 2) (by decide +kernel) rfl) (
  fm (z_iconst (n := 4) (by decide +kernel) (by decide)) (
  fm (z_icmp_ne (off := 7) (by decide +kernel) (by decide)) (
  fm (z_iconst (n := 1) (by decide +kernel) (by decide)) (
  fm (z_goto (off := 4) (by decide +kernel) (by decide)) (
  fm (z_iconst (n := 2) (by decide +kernel) (by decide)) (
  fm (z_iret rfl (by decide +kernel)) (fn)))))))))))))))))))))))))
def kX5_putsBack : Cd := [(0, s_pushi 0 1), (1, s_istore 1 2), (2, s_iload 1 3), (3, s_pushi 78 5), (5, s_icmp (fun x y => y ≤ x) 26 8), (8, s_aload 0 9), (9, s_getf 5 0 12), (12, s_iload 1 13), (13, s_aload 0 14), (14, s_getf 5 2 17), (17, s_iload 1 18), (18, s_iald 19), (19, s_iast 20), (20, s_iinc 1 1 23), (23, s_goto 2), (26, s_vret)]
set_option maxRecDepth 20000 in
theorem zX5_putsBack : ∀ q ∈ kX5_putsBack, Snd RX5 cX5_putsBack 2 none (rmM mX5_putsBack) q.1 q.2 :=
  fm (z_iconst (n := 0) (by decide +kernel) (by decide)) (
  fm (z_istore_n (j := 1) (by decide +kernel) rfl (by decide)) (
  fm (z_iload_n (j := 1) (by decide +kernel) rfl) (
  fm (z_bipush (n := 78) (by decide +kernel) (by decide)) (
  fm (z_icmp_ge (off := 21) (by decide +kernel) (by decide)) (
  fm (z_aload_n (j := 0) (by decide +kernel) rfl) (
  fm (z_getf (idx := 7) awX5 rfl (by decide) wd_4_12 rfl (by decide +kernel)) (
  fm (z_iload_n (j := 1) (by decide +kernel) rfl) (
  fm (z_aload_n (j := 0) (by decide +kernel) rfl) (
  fm (z_getf (idx := 16) awX5 rfl (by decide) wd_4_14 rfl (by decide +kernel)) (
  fm (z_iload_n (j := 1) (by decide +kernel) rfl) (
  fm (z_iald (by decide +kernel)) (
  fm (z_iast (by decide +kernel)) (
  fm (z_iinc (n := 1) (by decide +kernel) (by decide) (by decide)) (
  fm (z_goto (off := (-21)) (by decide +kernel) (by decide)) (
  fm (z_vret rfl (by decide +kernel)) (fn))))))))))))))))
def kX5_saves : Cd := [(0, s_pushi 0 1), (1, s_istore 1 2), (2, s_iload 1 3), (3, s_pushi 78 5), (5, s_icmp (fun x y => y ≤ x) 26 8), (8, s_aload 0 9), (9, s_getf 5 2 12), (12, s_iload 1 13), (13, s_aload 0 14), (14, s_getf 5 0 17), (17, s_iload 1 18), (18, s_iald 19), (19, s_iast 20), (20, s_iinc 1 1 23), (23, s_goto 2), (26, s_vret)]
set_option maxRecDepth 20000 in
theorem zX5_saves : ∀ q ∈ kX5_saves, Snd RX5 cX5_saves 2 none (rmM mX5_saves) q.1 q.2 :=
  fm (z_iconst (n := 0) (by decide +kernel) (by decide)) (
  fm (z_istore_n (j := 1) (by decide +kernel) rfl (by decide)) (
  fm (z_iload_n (j := 1) (by decide +kernel) rfl) (
  fm (z_bipush (n := 78) (by decide +kernel) (by decide)) (
  fm (z_icmp_ge (off := 21) (by decide +kernel) (by decide)) (
  fm (z_aload_n (j := 0) (by decide +kernel) rfl) (
  fm (z_getf (idx := 16) awX5 rfl (by decide) wd_4_14 rfl (by decide +kernel)) (
  fm (z_iload_n (j := 1) (by decide +kernel) rfl) (
  fm (z_aload_n (j := 0) (by decide +kernel) rfl) (
  fm (z_getf (idx := 7) awX5 rfl (by decide) wd_4_12 rfl (by decide +kernel)) (
  fm (z_iload_n (j := 1) (by decide +kernel) rfl) (
  fm (z_iald (by decide +kernel)) (
  fm (z_iast (by decide +kernel)) (
  fm (z_iinc (n := 1) (by decide +kernel) (by decide) (by decide)) (
  fm (z_goto (off := (-21)) (by decide +kernel) (by decide)) (
  fm (z_vret rfl (by decide +kernel)) (fn))))))))))))))))
def kX5_seed : Cd := [(0, s_aload 0 1), (1, s_getf 5 0 4), (4, s_pushi 3 5), (5, s_iald 6), (6, s_istore 2 7), (7, s_aload 0 8), (8, s_getf 5 0 11), (11, s_pushi 3 12), (12, s_iload 1 13), (13, s_iast 14), (14, s_iload 2 15), (15, s_iret)]
set_option maxRecDepth 20000 in
theorem zX5_seed : ∀ q ∈ kX5_seed, Snd RX5 cX5_seed 3 (some .int) (rmM mX5_seed) q.1 q.2 :=
  fm (z_aload_n (j := 0) (by decide +kernel) rfl) (
  fm (z_getf (idx := 7) awX5 rfl (by decide) wd_4_12 rfl (by decide +kernel)) (
  fm (z_iconst (n := 3) (by decide +kernel) (by decide)) (
  fm (z_iald (by decide +kernel)) (
  fm (z_istore_n (j := 2) (by decide +kernel) rfl (by decide)) (
  fm (z_aload_n (j := 0) (by decide +kernel) rfl) (
  fm (z_getf (idx := 7) awX5 rfl (by decide) wd_4_12 rfl (by decide +kernel)) (
  fm (z_iconst (n := 3) (by decide +kernel) (by decide)) (
  fm (z_iload_n (j := 1) (by decide +kernel) rfl) (
  fm (z_iast (by decide +kernel)) (
  fm (z_iload_n (j := 2) (by decide +kernel) rfl) (
  fm (z_iret rfl (by decide +kernel)) (fn))))))))))))
def kX5_sells : Cd := [(0, s_aload 0 1), (1, s_iload 1 2), (2, s_aload 0 3), (3, s_iload 1 4), (4, s_pushi 1 5), (5, s_inv mX5_its 5 2 8), (8, s_inv mX5_offer 5 2 11), (11, s_istore 2 12), (12, s_aload 0 13), (13, s_iload 1 14), (14, s_pushi 2 15), (15, s_inv mX5_its 5 2 18), (18, s_iload 2 19), (19, s_icmp (fun x y => y ≤ x) 31 22), (22, s_aload 0 23), (23, s_iload 1 24), (24, s_pushi 2 25), (25, s_inv mX5_its 5 2 28), (28, s_goto 32), (31, s_iload 2 32), (32, s_iret)]
set_option maxRecDepth 20000 in
theorem zX5_sells : ∀ q ∈ kX5_sells, Snd RX5 cX5_sells 3 (some .int) (rmM mX5_sells) q.1 q.2 :=
  fm (z_aload_n (j := 0) (by decide +kernel) rfl) (
  fm (z_iload_n (j := 1) (by decide +kernel) rfl) (
  fm (z_aload_n (j := 0) (by decide +kernel) rfl) (
  fm (z_iload_n (j := 1) (by decide +kernel) rfl) (
  fm (z_iconst (n := 1) (by decide +kernel) (by decide)) (
  fm (z_inv (idx := 62) rfl (by decide +kernel) wd_4_98 wd_4_100 ws_30 wd_1_7 wd_4_101 (by decide +kernel) ⟨Nat.le_of_ble_eq_true rfl, Nat.le_of_ble_eq_true rfl⟩) (
  fm (z_inv (idx := 91) rfl (by decide +kernel) wd_4_144 wd_4_146 ws_36 wd_1_7 wd_4_147 (by decide +kernel) ⟨Nat.le_of_ble_eq_true rfl, Nat.le_of_ble_eq_true rfl⟩) (
  fm (z_istore_n (j := 2) (by decide +kernel) rfl (by decide)) (
  fm (z_aload_n (j := 0) (by decide +kernel) rfl) (
  fm (z_iload_n (j := 1) (by decide +kernel) rfl) (
  fm (z_iconst (n := 2) (by decide +kernel) (by decide)) (
  fm (z_inv (idx := 62) rfl (by decide +kernel) wd_4_98 wd_4_100 ws_30 wd_1_7 wd_4_101 (by decide +kernel) ⟨Nat.le_of_ble_eq_true rfl, Nat.le_of_ble_eq_true rfl⟩) (
  fm (z_iload_n (j := 2) (by decide +kernel) rfl) (
  fm (z_icmp_ge (off := 12) (by decide +kernel) (by decide)) (
  fm (z_aload_n (j := 0) (by decide +kernel) rfl) (
  fm (z_iload_n (j := 1) (by decide +kernel) rfl) (
  fm (z_iconst (n := 2) (by decide +kernel) (by decide)) (
  fm (z_inv (idx := 62) rfl (by decide +kernel) wd_4_98 wd_4_100 ws_30 wd_1_7 wd_4_101 (by decide +kernel) ⟨Nat.le_of_ble_eq_true rfl, Nat.le_of_ble_eq_true rfl⟩) (
  fm (z_goto (off := 4) (by decide +kernel) (by decide)) (
  fm (z_iload_n (j := 2) (by decide +kernel) rfl) (
  fm (z_iret rfl (by decide +kernel)) (fn)))))))))))))))))))))
def kX5_shade : Cd := [(0, s_iload 1 1), (1, s_invS mX5_isPlace 1 4), (4, s_if (fun x => x = 0) 7 14), (7, s_aload 0 8), (8, s_pushi (-1000001) 10), (10, s_inv mX5_finds 5 1 13), (13, s_iret), (14, s_aload 0 15), (15, s_getf 5 0 18), (18, s_pushi 16 20), (20, s_iload 1 21), (21, s_bin (fun x y => x + y) 22), (22, s_iald 23), (23, s_istore 3 24), (24, s_aload 0 25), (25, s_getf 5 0 28), (28, s_pushi 16 30), (30, s_iload 1 31), (31, s_bin (fun x y => x + y) 32), (32, s_iload 2 33), (33, s_if (fun x => x = 0) 40 36), (36, s_pushi 1 37), (37, s_goto 41), (40, s_pushi 0 41), (41, s_iast 42), (42, s_iload 3 43), (43, s_iret)]
set_option maxRecDepth 20000 in
theorem zX5_shade : ∀ q ∈ kX5_shade, Snd RX5 cX5_shade 4 (some .int) (rmM mX5_shade) q.1 q.2 :=
  fm (z_iload_n (j := 1) (by decide +kernel) rfl) (
  fm (z_invS (idx := 52) (by decide +kernel) wd_4_68 wd_4_69 wd_1_7 wd_4_70 (by decide +kernel) ⟨Nat.le_of_ble_eq_true rfl, Nat.le_of_ble_eq_true rfl⟩) (
  fm (z_if_ne (off := 10) (by decide +kernel) (by decide)) (
  fm (z_aload_n (j := 0) (by decide +kernel) rfl) (
  fm (z_ldc (i := 40) (by decide +kernel) wd_4_76) (
  fm (z_inv (idx := 58) rfl (by decide +kernel) wd_4_77 wd_4_79 ws_28 wd_1_7 wd_4_80 (by decide +kernel) ⟨Nat.le_of_ble_eq_true rfl, Nat.le_of_ble_eq_true rfl⟩) (
  fm (z_iret rfl (by decide +kernel)) (
  fm (z_aload_n (j := 0) (by decide +kernel) rfl) (
  fm (z_getf (idx := 7) awX5 rfl (by decide) wd_4_12 rfl (by decide +kernel)) (
  fm (z_bipush (n := 16) (by decide +kernel) (by decide)) (
  fm (z_iload_n (j := 1) (by decide +kernel) rfl) (
  fm (z_iadd (by decide +kernel)) (
  fm (z_iald (by decide +kernel)) (
  fm (z_istore_n (j := 3) (by decide +kernel) rfl (by decide)) (
  fm (z_aload_n (j := 0) (by decide +kernel) rfl) (
  fm (z_getf (idx := 7) awX5 rfl (by decide) wd_4_12 rfl (by decide +kernel)) (
  fm (z_bipush (n := 16) (by decide +kernel) (by decide)) (
  fm (z_iload_n (j := 1) (by decide +kernel) rfl) (
  fm (z_iadd (by decide +kernel)) (
  fm (z_iload_n (j := 2) (by decide +kernel) rfl) (
  fm (z_if_eq (off := 7) (by decide +kernel) (by decide)) (
  fm (z_iconst (n := 1) (by decide +kernel) (by decide)) (
  fm (z_goto (off := 4) (by decide +kernel) (by decide)) (
  fm (z_iconst (n := 0) (by decide +kernel) (by decide)) (
  fm (z_iast (by decide +kernel)) (
  fm (z_iload_n (j := 3) (by decide +kernel) rfl) (
  fm (z_iret rfl (by decide +kernel)) (fn)))))))))))))))))))))))))))
def kX5_sheet : Cd := [(0, s_iload 1 1), (1, s_invS mX5_isOne 1 4), (4, s_if (fun x => x = 0) 29 7), (7, s_iload 2 8), (8, s_if (fun x => x = 0) 36 11), (11, s_iload 2 12), (12, s_pushi 8 14), (14, s_icmp (fun x y => x = y) 36 17), (17, s_iload 2 18), (18, s_pushi 16 20), (20, s_icmp (fun x y => x = y) 36 23), (23, s_iload 2 24), (24, s_pushi 32 26), (26, s_icmp (fun x y => x = y) 36 29), (29, s_aload 0 30), (30, s_pushi (-1000001) 32), (32, s_inv mX5_finds 5 1 35), (35, s_iret), (36, s_iload 3 37), (37, s_if (fun x => 0 ≤ x) 47 40), (40, s_aload 0 41), (41, s_pushi (-1000007) 43), (43, s_inv mX5_finds 5 1 46), (46, s_iret), (47, s_iload 3 48), (48, s_pushi 40 50), (50, s_icmp (fun x y => x ≤ y) 60 53), (53, s_aload 0 54), (54, s_pushi (-1000001) 56), (56, s_inv mX5_finds 5 1 59), (59, s_iret), (60, s_aload 0 61), (61, s_getf 5 13 64), (64, s_iload 1 65), (65, s_iload 2 66), (66, s_iast 67), (67, s_aload 0 68), (68, s_getf 5 14 71), (71, s_iload 1 72), (72, s_iload 2 73), (73, s_if (fun x => x = 0) 76 80), (76, s_pushi 0 77), (77, s_goto 81), (80, s_iload 3 81), (81, s_iast 82), (82, s_pushi 0 83), (83, s_istore 4 85), (85, s_iload 4 87), (87, s_pushi 40 89), (89, s_icmp (fun x y => y ≤ x) 111 92), (92, s_aload 0 93), (93, s_getf 5 15 96), (96, s_pushi 40 98), (98, s_iload 1 99), (99, s_bin (fun x y => x * y) 100), (100, s_iload 4 102), (102, s_bin (fun x y => x + y) 103), (103, s_pushi 0 104), (104, s_iast 105), (105, s_iinc 4 1 108), (108, s_goto 85), (111, s_aload 0 112), (112, s_getf 5 14 115), (115, s_iload 1 116), (116, s_iald 117), (117, s_iret)]
set_option maxRecDepth 20000 in
theorem zX5_sheet : ∀ q ∈ kX5_sheet, Snd RX5 cX5_sheet 5 (some .int) (rmM mX5_sheet) q.1 q.2 :=
  fm (z_iload_n (j := 1) (by decide +kernel) rfl) (
  fm (z_invS (idx := 298) (by decide +kernel) wd_5_210 wd_5_211 wd_1_7 wd_5_212 (by decide +kernel) ⟨Nat.le_of_ble_eq_true rfl, Nat.le_of_ble_eq_true rfl⟩) (
  fm (z_if_eq (off := 25) (by decide +kernel) (by decide)) (
  fm (z_iload_n (j := 2) (by decide +kernel) rfl) (
  fm (z_if_eq (off := 28) (by decide +kernel) (by decide)) (
  fm (z_iload_n (j := 2) (by decide +kernel) rfl) (
  fm (z_bipush (n := 8) (by decide +kernel) (by decide)) (
  fm (z_icmp_eq (off := 22) (by decide +kernel) (by decide)) (
  fm (z_iload_n (j := 2) (by decide +kernel) rfl) (
  fm (z_bipush (n := 16) (by decide +kernel) (by decide)) (
  fm (z_icmp_eq (off := 16) (by decide +kernel) (by decide)) (
  fm (z_iload_n (j := 2) (by decide +kernel) rfl) (
  fm (z_bipush (n := 32) (by decide +kernel) (by decide)) (
  fm (z_icmp_eq (off := 10) (by decide +kernel) (by decide)) (
  fm (z_aload_n (j := 0) (by decide +kernel) rfl) (
  fm (z_ldc (i := 40) (by decide +kernel) wd_4_76) (
  fm (z_inv (idx := 58) rfl (by decide +kernel) wd_4_77 wd_4_79 ws_28 wd_1_7 wd_4_80 (by decide +kernel) ⟨Nat.le_of_ble_eq_true rfl, Nat.le_of_ble_eq_true rfl⟩) (
  fm (z_iret rfl (by decide +kernel)) (
  fm (z_iload_n (j := 3) (by decide +kernel) rfl) (
  fm (z_if_ge (off := 10) (by decide +kernel) (by decide)) (
  fm (z_aload_n (j := 0) (by decide +kernel) rfl) (
  fm (z_ldc (i := 146) (by decide +kernel) wd_5_10) (
  fm (z_inv (idx := 58) rfl (by decide +kernel) wd_4_77 wd_4_79 ws_28 wd_1_7 wd_4_80 (by decide +kernel) ⟨Nat.le_of_ble_eq_true rfl, Nat.le_of_ble_eq_true rfl⟩) (
  fm (z_iret rfl (by decide +kernel)) (
  fm (z_iload_n (j := 3) (by decide +kernel) rfl) (
  fm (z_bipush (n := 40) (by decide +kernel) (by decide)) (
  fm (z_icmp_le (off := 10) (by decide +kernel) (by decide)) (
  fm (z_aload_n (j := 0) (by decide +kernel) rfl) (
  fm (z_ldc (i := 40) (by decide +kernel) wd_4_76) (
  fm (z_inv (idx := 58) rfl (by decide +kernel) wd_4_77 wd_4_79 ws_28 wd_1_7 wd_4_80 (by decide +kernel) ⟨Nat.le_of_ble_eq_true rfl, Nat.le_of_ble_eq_true rfl⟩) (
  fm (z_iret rfl (by decide +kernel)) (
  fm (z_aload_n (j := 0) (by decide +kernel) rfl) (
  fm (z_getf (idx := 28) awX5 rfl (by decide) wd_4_25 rfl (by decide +kernel)) (
  fm (z_iload_n (j := 1) (by decide +kernel) rfl) (
  fm (z_iload_n (j := 2) (by decide +kernel) rfl) (
  fm (z_iast (by decide +kernel)) (
  fm (z_aload_n (j := 0) (by decide +kernel) rfl) (
  fm (z_getf (idx := 31) awX5 rfl (by decide) wd_4_26 rfl (by decide +kernel)) (
  fm (z_iload_n (j := 1) (by decide +kernel) rfl) (
  fm (z_iload_n (j := 2) (by decide +kernel) rfl) (
  fm (z_if_ne (off := 7) (by decide +kernel) (by decide)) (
  fm (z_iconst (n := 0) (by decide +kernel) (by decide)) (
  fm (z_goto (off := 4) (by decide +kernel) (by decide)) (
  fm (z_iload_n (j := 3) (by decide +kernel) rfl) (
  fm (z_iast (by decide +kernel)) (
  fm (z_iconst (n := 0) (by decide +kernel) (by decide)) (
  fm (z_istore (i := 4) (by decide +kernel) (by decide)) (
  fm (z_iload (i := 4) (by decide +kernel)) (
  fm (z_bipush (n := 40) (by decide +kernel) (by decide)) (
  fm (z_icmp_ge (off := 22) (by decide +kernel) (by decide)) (
  fm (z_aload_n (j := 0) (by decide +kernel) rfl) (
  fm (z_getf (idx := 34) awX5 rfl (by decide) wd_4_27 rfl (by decide +kernel)) (
  fm (z_bipush (n := 40) (by decide +kernel) (by decide)) (
  fm (z_iload_n (j := 1) (by decide +kernel) rfl) (
  fm (z_imul (by decide +kernel)) (
  fm (z_iload (i := 4) (by decide +kernel)) (
  fm (z_iadd (by decide +kernel)) (
  fm (z_iconst (n := 0) (by decide +kernel) (by decide)) (
  fm (z_iast (by decide +kernel)) (
  fm (z_iinc (n := 1) (by decide +kernel) (by decide) (by decide)) (
  fm (z_goto (off := (-23)) (by decide +kernel) (by decide)) (
  fm (z_aload_n (j := 0) (by decide +kernel) rfl) (
  fm (z_getf (idx := 31) awX5 rfl (by decide) wd_4_26 rfl (by decide +kernel)) (
  fm (z_iload_n (j := 1) (by decide +kernel) rfl) (
  fm (z_iald (by decide +kernel)) (
  fm (z_iret rfl (by decide +kernel)) (fn))))))))))))))))))))))))))))))))))))))))))))))))))))))))))))))))))
def kX5_spring : Cd := [(0, s_iload 1 1), (1, s_invS mX5_isPlace 1 4), (4, s_if (fun x => x = 0) 7 14), (7, s_aload 0 8), (8, s_pushi (-1000001) 10), (10, s_inv mX5_finds 5 1 13), (13, s_iret), (14, s_aload 0 15), (15, s_getf 5 0 18), (18, s_pushi 2 19), (19, s_iald 20), (20, s_istore 2 21), (21, s_aload 0 22), (22, s_getf 5 0 25), (25, s_pushi 2 26), (26, s_iload 1 27), (27, s_iast 28), (28, s_iload 2 29), (29, s_iret)]
set_option maxRecDepth 20000 in
theorem zX5_spring : ∀ q ∈ kX5_spring, Snd RX5 cX5_spring 3 (some .int) (rmM mX5_spring) q.1 q.2 :=
  fm (z_iload_n (j := 1) (by decide +kernel) rfl) (
  fm (z_invS (idx := 52) (by decide +kernel) wd_4_68 wd_4_69 wd_1_7 wd_4_70 (by decide +kernel) ⟨Nat.le_of_ble_eq_true rfl, Nat.le_of_ble_eq_true rfl⟩) (
  fm (z_if_ne (off := 10) (by decide +kernel) (by decide)) (
  fm (z_aload_n (j := 0) (by decide +kernel) rfl) (
  fm (z_ldc (i := 40) (by decide +kernel) wd_4_76) (
  fm (z_inv (idx := 58) rfl (by decide +kernel) wd_4_77 wd_4_79 ws_28 wd_1_7 wd_4_80 (by decide +kernel) ⟨Nat.le_of_ble_eq_true rfl, Nat.le_of_ble_eq_true rfl⟩) (
  fm (z_iret rfl (by decide +kernel)) (
  fm (z_aload_n (j := 0) (by decide +kernel) rfl) (
  fm (z_getf (idx := 7) awX5 rfl (by decide) wd_4_12 rfl (by decide +kernel)) (
  fm (z_iconst (n := 2) (by decide +kernel) (by decide)) (
  fm (z_iald (by decide +kernel)) (
  fm (z_istore_n (j := 2) (by decide +kernel) rfl (by decide)) (
  fm (z_aload_n (j := 0) (by decide +kernel) rfl) (
  fm (z_getf (idx := 7) awX5 rfl (by decide) wd_4_12 rfl (by decide +kernel)) (
  fm (z_iconst (n := 2) (by decide +kernel) (by decide)) (
  fm (z_iload_n (j := 1) (by decide +kernel) rfl) (
  fm (z_iast (by decide +kernel)) (
  fm (z_iload_n (j := 2) (by decide +kernel) rfl) (
  fm (z_iret rfl (by decide +kernel)) (fn)))))))))))))))))))
def kX5_stall : Cd := [(0, s_iload 1 1), (1, s_i2l 2), (2, s_pushl 0 3), (3, s_pushl 6 6), (6, s_invS mX5_in 3 9), (9, s_if (fun x => x = 0) 19 12), (12, s_iload 2 13), (13, s_invS mX5_isPlace 1 16), (16, s_if (fun x => x = 0) 19 26), (19, s_aload 0 20), (20, s_pushi (-1000001) 22), (22, s_inv mX5_finds 5 1 25), (25, s_iret), (26, s_aload 0 27), (27, s_iload 2 28), (28, s_inv mX5_stallAt 5 1 31), (31, s_if (fun x => x < 0) 41 34), (34, s_aload 0 35), (35, s_pushi (-1000005) 37), (37, s_inv mX5_finds 5 1 40), (40, s_iret), (41, s_aload 0 42), (42, s_getf 5 0 45), (45, s_pushi 1 46), (46, s_iald 47), (47, s_pushi 8 49), (49, s_icmp (fun x y => x = y) 52 61), (52, s_aload 0 53), (53, s_pushi (-1000002) 55), (55, s_inv mX5_finds 5 1 58), (58, s_goto 69), (61, s_aload 0 62), (62, s_iload 1 63), (63, s_iload 2 64), (64, s_pushi 20 66), (66, s_inv mX5_newStall 5 3 69), (69, s_iret)]
set_option maxRecDepth 20000 in
theorem zX5_stall : ∀ q ∈ kX5_stall, Snd RX5 cX5_stall 3 (some .int) (rmM mX5_stall) q.1 q.2 :=
  fm (z_iload_n (j := 1) (by decide +kernel) rfl) (
  fm (z_i2l (by decide +kernel)) (
  fm (z_lconst (n := 0) (by decide +kernel) (by decide)) (
  fm (z_ldc2 (i := 65) (by decide +kernel) wd_4_93) (
  fm (z_invS (idx := 43) (by decide +kernel) wd_4_72 wd_4_73 wd_1_7 wd_4_74 (by decide +kernel) ⟨Nat.le_of_ble_eq_true rfl, Nat.le_of_ble_eq_true rfl⟩) (
  fm (z_if_eq (off := 10) (by decide +kernel) (by decide)) (
  fm (z_iload_n (j := 2) (by decide +kernel) rfl) (
  fm (z_invS (idx := 52) (by decide +kernel) wd_4_68 wd_4_69 wd_1_7 wd_4_70 (by decide +kernel) ⟨Nat.le_of_ble_eq_true rfl, Nat.le_of_ble_eq_true rfl⟩) (
  fm (z_if_ne (off := 10) (by decide +kernel) (by decide)) (
  fm (z_aload_n (j := 0) (by decide +kernel) rfl) (
  fm (z_ldc (i := 40) (by decide +kernel) wd_4_76) (
  fm (z_inv (idx := 58) rfl (by decide +kernel) wd_4_77 wd_4_79 ws_28 wd_1_7 wd_4_80 (by decide +kernel) ⟨Nat.le_of_ble_eq_true rfl, Nat.le_of_ble_eq_true rfl⟩) (
  fm (z_iret rfl (by decide +kernel)) (
  fm (z_aload_n (j := 0) (by decide +kernel) rfl) (
  fm (z_iload_n (j := 2) (by decide +kernel) rfl) (
  fm (z_inv (idx := 67) rfl (by decide +kernel) wd_4_94 wd_4_96 ws_29 wd_1_7 wd_4_97 (by decide +kernel) ⟨Nat.le_of_ble_eq_true rfl, Nat.le_of_ble_eq_true rfl⟩) (
  fm (z_if_lt (off := 10) (by decide +kernel) (by decide)) (
  fm (z_aload_n (j := 0) (by decide +kernel) rfl) (
  fm (z_ldc (i := 70) (by decide +kernel) wd_4_105) (
  fm (z_inv (idx := 58) rfl (by decide +kernel) wd_4_77 wd_4_79 ws_28 wd_1_7 wd_4_80 (by decide +kernel) ⟨Nat.le_of_ble_eq_true rfl, Nat.le_of_ble_eq_true rfl⟩) (
  fm (z_iret rfl (by decide +kernel)) (
  fm (z_aload_n (j := 0) (by decide +kernel) rfl) (
  fm (z_getf (idx := 7) awX5 rfl (by decide) wd_4_12 rfl (by decide +kernel)) (
  fm (z_iconst (n := 1) (by decide +kernel) (by decide)) (
  fm (z_iald (by decide +kernel)) (
  fm (z_bipush (n := 8) (by decide +kernel) (by decide)) (
  fm (z_icmp_ne (off := 12) (by decide +kernel) (by decide)) (
  fm (z_aload_n (j := 0) (by decide +kernel) rfl) (
  fm (z_ldc (i := 71) (by decide +kernel) wd_4_106) (
  fm (z_inv (idx := 58) rfl (by decide +kernel) wd_4_77 wd_4_79 ws_28 wd_1_7 wd_4_80 (by decide +kernel) ⟨Nat.le_of_ble_eq_true rfl, Nat.le_of_ble_eq_true rfl⟩) (
  fm (z_goto (off := 11) (by decide +kernel) (by decide)) (
  fm (z_aload_n (j := 0) (by decide +kernel) rfl) (
  fm (z_iload_n (j := 1) (by decide +kernel) rfl) (
  fm (z_iload_n (j := 2) (by decide +kernel) rfl) (
  fm (z_bipush (n := 20) (by decide +kernel) (by decide)) (
  fm (z_inv (idx := 72) rfl (by decide +kernel) wd_4_107 wd_4_109 ws_31 wd_1_7 wd_4_110 (by decide +kernel) ⟨Nat.le_of_ble_eq_true rfl, Nat.le_of_ble_eq_true rfl⟩) (
  fm (z_iret rfl (by decide +kernel)) (fn)))))))))))))))))))))))))))))))))))))
def kX5_stallAt : Cd := [(0, s_pushi (-1) 1), (1, s_istore 2 2), (2, s_pushi 0 3), (3, s_istore 3 4), (4, s_iload 3 5), (5, s_aload 0 6), (6, s_getf 5 0 9), (9, s_pushi 1 10), (10, s_iald 11), (11, s_icmp (fun x y => y ≤ x) 36 14), (14, s_aload 0 15), (15, s_iload 3 16), (16, s_pushi 1 17), (17, s_inv mX5_its 5 2 20), (20, s_iload 1 21), (21, s_icmp (fun x y => x = y) 24 28), (24, s_iload 3 25), (25, s_goto 29), (28, s_iload 2 29), (29, s_istore 2 30), (30, s_iinc 3 1 33), (33, s_goto 4), (36, s_iload 2 37), (37, s_iret)]
set_option maxRecDepth 20000 in
theorem zX5_stallAt : ∀ q ∈ kX5_stallAt, Snd RX5 cX5_stallAt 4 (some .int) (rmM mX5_stallAt) q.1 q.2 :=
  fm (z_iconst (n := (-1)) (by decide +kernel) (by decide)) (
  fm (z_istore_n (j := 2) (by decide +kernel) rfl (by decide)) (
  fm (z_iconst (n := 0) (by decide +kernel) (by decide)) (
  fm (z_istore_n (j := 3) (by decide +kernel) rfl (by decide)) (
  fm (z_iload_n (j := 3) (by decide +kernel) rfl) (
  fm (z_aload_n (j := 0) (by decide +kernel) rfl) (
  fm (z_getf (idx := 7) awX5 rfl (by decide) wd_4_12 rfl (by decide +kernel)) (
  fm (z_iconst (n := 1) (by decide +kernel) (by decide)) (
  fm (z_iald (by decide +kernel)) (
  fm (z_icmp_ge (off := 25) (by decide +kernel) (by decide)) (
  fm (z_aload_n (j := 0) (by decide +kernel) rfl) (
  fm (z_iload_n (j := 3) (by decide +kernel) rfl) (
  fm (z_iconst (n := 1) (by decide +kernel) (by decide)) (
  fm (z_inv (idx := 62) rfl (by decide +kernel) wd_4_98 wd_4_100 ws_30 wd_1_7 wd_4_101 (by decide +kernel) ⟨Nat.le_of_ble_eq_true rfl, Nat.le_of_ble_eq_true rfl⟩) (
  fm (z_iload_n (j := 1) (by decide +kernel) rfl) (
  fm (z_icmp_ne (off := 7) (by decide +kernel) (by decide)) (
  fm (z_iload_n (j := 3) (by decide +kernel) rfl) (
  fm (z_goto (off := 4) (by decide +kernel) (by decide)) (
  fm (z_iload_n (j := 2) (by decide +kernel) rfl) (
  fm (z_istore_n (j := 2) (by decide +kernel) rfl (by decide)) (
  fm (z_iinc (n := 1) (by decide +kernel) (by decide) (by decide)) (
  fm (z_goto (off := (-29)) (by decide +kernel) (by decide)) (
  fm (z_iload_n (j := 2) (by decide +kernel) rfl) (
  fm (z_iret rfl (by decide +kernel)) (fn))))))))))))))))))))))))
def kX5_stallItem : Cd := [(0, s_aload 0 1), (1, s_aload 0 2), (2, s_getf 5 0 5), (5, s_pushi 1 6), (6, s_iald 7), (7, s_pushi 8 9), (9, s_icmp (fun x y => y ≤ x) 16 12), (12, s_pushi 1 13), (13, s_goto 17), (16, s_pushi 0 17), (17, s_inv mX5_needs 5 1 20), (20, s_aload 0 21), (21, s_aload 0 22), (22, s_inv mX5_word 5 0 25), (25, s_pushl 52 28), (28, s_lcmp 29), (29, s_if (fun x => x = 0) 32 36), (32, s_pushi 1 33), (33, s_goto 37), (36, s_pushi 0 37), (37, s_inv mX5_needs 5 1 40), (40, s_aload 0 41), (41, s_getf 5 12 44), (44, s_if (fun x => x = 0) 47 51), (47, s_aload 0 48), (48, s_inv mX5_freePlace 5 0 51), (51, s_aload 0 52), (52, s_getf 5 11 55), (55, s_istore 2 56), (56, s_aload 0 57), (57, s_aload 0 58), (58, s_inv mX5_word 5 0 61), (61, s_pushl 7847059 64), (64, s_lcmp 65), (65, s_if (fun x => x = 0) 68 72), (68, s_pushi 1 69), (69, s_goto 73), (72, s_pushi 0 73), (73, s_pushi 0 74), (74, s_pushi 99 76), (76, s_pushi 20 78), (78, s_inv mX5_perhaps 5 4 81), (81, s_istore 3 82), (82, s_aload 0 83), (83, s_getf 5 12 86), (86, s_if (fun x => x = 0) 89 98), (89, s_aload 0 90), (90, s_iload 1 91), (91, s_iload 2 92), (92, s_iload 3 93), (93, s_inv mX5_newStall 5 3 96), (96, s_istore 4 98), (98, s_vret)]
set_option maxRecDepth 20000 in
theorem zX5_stallItem : ∀ q ∈ kX5_stallItem, Snd RX5 cX5_stallItem 5 none (rmM mX5_stallItem) q.1 q.2 :=
  fm (z_aload_n (j := 0) (by decide +kernel) rfl) (
  fm (z_aload_n (j := 0) (by decide +kernel) rfl) (
  fm (z_getf (idx := 7) awX5 rfl (by decide) wd_4_12 rfl (by decide +kernel)) (
  fm (z_iconst (n := 1) (by decide +kernel) (by decide)) (
  fm (z_iald (by decide +kernel)) (
  fm (z_bipush (n := 8) (by decide +kernel) (by decide)) (
  fm (z_icmp_ge (off := 7) (by decide +kernel) (by decide)) (
  fm (z_iconst (n := 1) (by decide +kernel) (by decide)) (
  fm (z_goto (off := 4) (by decide +kernel) (by decide)) (
  fm (z_iconst (n := 0) (by decide +kernel) (by decide)) (
  fm (z_inv (idx := 232) rfl (by decide +kernel) wd_5_168 wd_5_170 ws_65 wd_1_7 wd_5_171 (by decide +kernel) ⟨Nat.le_of_ble_eq_true rfl, Nat.le_of_ble_eq_true rfl⟩) (
  fm (z_aload_n (j := 0) (by decide +kernel) rfl) (
  fm (z_aload_n (j := 0) (by decide +kernel) rfl) (
  fm (z_inv (idx := 236) rfl (by decide +kernel) wd_5_150 wd_5_152 ws_63 wd_1_7 wd_5_153 (by decide +kernel) ⟨Nat.le_of_ble_eq_true rfl, Nat.le_of_ble_eq_true rfl⟩) (
  fm (z_ldc2 (i := 256) (by decide +kernel) wd_5_172) (
  fm (z_lcmp (by decide +kernel)) (
  fm (z_if_ne (off := 7) (by decide +kernel) (by decide)) (
  fm (z_iconst (n := 1) (by decide +kernel) (by decide)) (
  fm (z_goto (off := 4) (by decide +kernel) (by decide)) (
  fm (z_iconst (n := 0) (by decide +kernel) (by decide)) (
  fm (z_inv (idx := 232) rfl (by decide +kernel) wd_5_168 wd_5_170 ws_65 wd_1_7 wd_5_171 (by decide +kernel) ⟨Nat.le_of_ble_eq_true rfl, Nat.le_of_ble_eq_true rfl⟩) (
  fm (z_aload_n (j := 0) (by decide +kernel) rfl) (
  fm (z_getf (idx := 218) awX5 rfl (by decide) wd_4_24 rfl (by decide +kernel)) (
  fm (z_if_ne (off := 7) (by decide +kernel) (by decide)) (
  fm (z_aload_n (j := 0) (by decide +kernel) rfl) (
  fm (z_inv (idx := 258) rfl (by decide +kernel) wd_5_173 wd_5_175 ws_66 wd_1_7 wd_5_176 (by decide +kernel) ⟨Nat.le_of_ble_eq_true rfl, Nat.le_of_ble_eq_true rfl⟩) (
  fm (z_aload_n (j := 0) (by decide +kernel) rfl) (
  fm (z_getf (idx := 229) awX5 rfl (by decide) wd_4_23 rfl (by decide +kernel)) (
  fm (z_istore_n (j := 2) (by decide +kernel) rfl (by decide)) (
  fm (z_aload_n (j := 0) (by decide +kernel) rfl) (
  fm (z_aload_n (j := 0) (by decide +kernel) rfl) (
  fm (z_inv (idx := 236) rfl (by decide +kernel) wd_5_150 wd_5_152 ws_63 wd_1_7 wd_5_153 (by decide +kernel) ⟨Nat.le_of_ble_eq_true rfl, Nat.le_of_ble_eq_true rfl⟩) (
  fm (z_ldc2 (i := 261) (by decide +kernel) wd_5_177) (
  fm (z_lcmp (by decide +kernel)) (
  fm (z_if_ne (off := 7) (by decide +kernel) (by decide)) (
  fm (z_iconst (n := 1) (by decide +kernel) (by decide)) (
  fm (z_goto (off := 4) (by decide +kernel) (by decide)) (
  fm (z_iconst (n := 0) (by decide +kernel) (by decide)) (
  fm (z_iconst (n := 0) (by decide +kernel) (by decide)) (
  fm (z_bipush (n := 99) (by decide +kernel) (by decide)) (
  fm (z_bipush (n := 20) (by decide +kernel) (by decide)) (
  fm (z_inv (idx := 263) rfl (by decide +kernel) wd_5_178 wd_5_180 ws_67 wd_1_7 wd_5_181 (by decide +kernel) ⟨Nat.le_of_ble_eq_true rfl, Nat.le_of_ble_eq_true rfl⟩) (
  fm (z_istore_n (j := 3) (by decide +kernel) rfl (by decide)) (
  fm (z_aload_n (j := 0) (by decide +kernel) rfl) (
  fm (z_getf (idx := 218) awX5 rfl (by decide) wd_4_24 rfl (by decide +kernel)) (
  fm (z_if_ne (off := 12) (by decide +kernel) (by decide)) (
  fm (z_aload_n (j := 0) (by decide +kernel) rfl) (
  fm (z_iload_n (j := 1) (by decide +kernel) rfl) (
  fm (z_iload_n (j := 2) (by decide +kernel) rfl) (
  fm (z_iload_n (j := 3) (by decide +kernel) rfl) (
  fm (z_inv (idx := 72) rfl (by decide +kernel) wd_4_107 wd_4_109 ws_31 wd_1_7 wd_4_110 (by decide +kernel) ⟨Nat.le_of_ble_eq_true rfl, Nat.le_of_ble_eq_true rfl⟩) (
  fm (z_istore (i := 4) (by decide +kernel) (by decide)) (
  fm (z_vret rfl (by decide +kernel)) (fn)))))))))))))))))))))))))))))))))))))))))))))))))))))
def kX5_status : Cd := [(0, s_iload 1 1), (1, s_i2l 2), (2, s_pushl (-1) 5), (5, s_pushl 6 8), (8, s_invS mX5_in 3 11), (11, s_if (fun x => x = 0) 14 21), (14, s_aload 0 15), (15, s_pushi (-1000001) 17), (17, s_inv mX5_finds 5 1 20), (20, s_iret), (21, s_pushi 0 22), (22, s_istore 2 23), (23, s_pushi 0 24), (24, s_istore 3 25), (25, s_iload 3 26), (26, s_pushi 7 28), (28, s_icmp (fun x y => y ≤ x) 59 31), (31, s_iload 2 32), (32, s_iload 1 33), (33, s_if (fun x => x < 0) 41 36), (36, s_iload 3 37), (37, s_iload 1 38), (38, s_icmp (fun x y => x = y) 41 50), (41, s_aload 0 42), (42, s_getf 5 3 45), (45, s_iload 3 46), (46, s_iald 47), (47, s_goto 51), (50, s_pushi 0 51), (51, s_bin (fun x y => x + y) 52), (52, s_istore 2 53), (53, s_iinc 3 1 56), (56, s_goto 25), (59, s_iload 2 60), (60, s_iret)]
set_option maxRecDepth 20000 in
theorem zX5_status : ∀ q ∈ kX5_status, Snd RX5 cX5_status 4 (some .int) (rmM mX5_status) q.1 q.2 :=
  fm (z_iload_n (j := 1) (by decide +kernel) rfl) (
  fm (z_i2l (by decide +kernel)) (
  fm (z_ldc2 (i := 319) (by decide +kernel) wd_6_33) (
  fm (z_ldc2 (i := 65) (by decide +kernel) wd_4_93) (
  fm (z_invS (idx := 43) (by decide +kernel) wd_4_72 wd_4_73 wd_1_7 wd_4_74 (by decide +kernel) ⟨Nat.le_of_ble_eq_true rfl, Nat.le_of_ble_eq_true rfl⟩) (
  fm (z_if_ne (off := 10) (by decide +kernel) (by decide)) (
  fm (z_aload_n (j := 0) (by decide +kernel) rfl) (
  fm (z_ldc (i := 40) (by decide +kernel) wd_4_76) (
  fm (z_inv (idx := 58) rfl (by decide +kernel) wd_4_77 wd_4_79 ws_28 wd_1_7 wd_4_80 (by decide +kernel) ⟨Nat.le_of_ble_eq_true rfl, Nat.le_of_ble_eq_true rfl⟩) (
  fm (z_iret rfl (by decide +kernel)) (
  fm (z_iconst (n := 0) (by decide +kernel) (by decide)) (
  fm (z_istore_n (j := 2) (by decide +kernel) rfl (by decide)) (
  fm (z_iconst (n := 0) (by decide +kernel) (by decide)) (
  fm (z_istore_n (j := 3) (by decide +kernel) rfl (by decide)) (
  fm (z_iload_n (j := 3) (by decide +kernel) rfl) (
  fm (z_bipush (n := 7) (by decide +kernel) (by decide)) (
  fm (z_icmp_ge (off := 31) (by decide +kernel) (by decide)) (
  fm (z_iload_n (j := 2) (by decide +kernel) rfl) (
  fm (z_iload_n (j := 1) (by decide +kernel) rfl) (
  fm (z_if_lt (off := 8) (by decide +kernel) (by decide)) (
  fm (z_iload_n (j := 3) (by decide +kernel) rfl) (
  fm (z_iload_n (j := 1) (by decide +kernel) rfl) (
  fm (z_icmp_ne (off := 12) (by decide +kernel) (by decide)) (
  fm (z_aload_n (j := 0) (by decide +kernel) rfl) (
  fm (z_getf (idx := 19) awX5 rfl (by decide) wd_4_15 rfl (by decide +kernel)) (
  fm (z_iload_n (j := 3) (by decide +kernel) rfl) (
  fm (z_iald (by decide +kernel)) (
  fm (z_goto (off := 4) (by decide +kernel) (by decide)) (
  fm (z_iconst (n := 0) (by decide +kernel) (by decide)) (
  fm (z_iadd (by decide +kernel)) (
  fm (z_istore_n (j := 2) (by decide +kernel) rfl (by decide)) (
  fm (z_iinc (n := 1) (by decide +kernel) (by decide) (by decide)) (
  fm (z_goto (off := (-31)) (by decide +kernel) (by decide)) (
  fm (z_iload_n (j := 2) (by decide +kernel) rfl) (
  fm (z_iret rfl (by decide +kernel)) (fn)))))))))))))))))))))))))))))))))))
def kX5_stay : Cd := [(0, s_aload 0 1), (1, s_pushi 0 2), (2, s_inv mX5_staying 5 1 5), (5, s_iret)]
set_option maxRecDepth 20000 in
theorem zX5_stay : ∀ q ∈ kX5_stay, Snd RX5 cX5_stay 1 (some .int) (rmM mX5_stay) q.1 q.2 :=
  fm (z_aload_n (j := 0) (by decide +kernel) rfl) (
  fm (z_iconst (n := 0) (by decide +kernel) (by decide)) (
  fm (z_inv (idx := 103) rfl (by decide +kernel) wd_4_174 wd_4_176 ws_41 wd_1_7 wd_4_177 (by decide +kernel) ⟨Nat.le_of_ble_eq_true rfl, Nat.le_of_ble_eq_true rfl⟩) (
  fm (z_iret rfl (by decide +kernel)) (fn))))
def kX5_staying : Cd := [(0, s_pushi 0 1), (1, s_istore 2 2), (2, s_pushi 0 3), (3, s_istore 3 4), (4, s_iload 3 5), (5, s_aload 0 6), (6, s_getf 5 0 9), (9, s_pushi 1 10), (10, s_iald 11), (11, s_icmp (fun x y => y ≤ x) 65 14), (14, s_aload 0 15), (15, s_iload 3 16), (16, s_pushi 2 17), (17, s_inv mX5_its 5 2 20), (20, s_iload 1 21), (21, s_if (fun x => x = 0) 28 24), (24, s_pushi 0 25), (25, s_goto 33), (28, s_aload 0 29), (29, s_iload 3 30), (30, s_inv mX5_sells 5 1 33), (33, s_bin (fun x y => x - y) 34), (34, s_istore 4 36), (36, s_iload 2 37), (37, s_iload 4 39), (39, s_if (fun x => x = 0) 50 42), (42, s_aload 0 43), (43, s_iload 3 44), (44, s_inv mX5_isGoing 5 1 47), (47, s_if (fun x => x = 0) 50 56), (50, s_pushi 1 51), (51, s_iload 3 52), (52, s_bin (fun x y => x <<< (y &&& 31)) 53), (53, s_goto 57), (56, s_pushi 0 57), (57, s_bin (fun x y => x ||| y) 58), (58, s_istore 2 59), (59, s_iinc 3 1 62), (62, s_goto 4), (65, s_iload 2 66), (66, s_iret)]
set_option maxRecDepth 20000 in
theorem zX5_staying : ∀ q ∈ kX5_staying, Snd RX5 cX5_staying 5 (some .int) (rmM mX5_staying) q.1 q.2 :=
  fm (z_iconst (n := 0) (by decide +kernel) (by decide)) (
  fm (z_istore_n (j := 2) (by decide +kernel) rfl (by decide)) (
  fm (z_iconst (n := 0) (by decide +kernel) (by decide)) (
  fm (z_istore_n (j := 3) (by decide +kernel) rfl (by decide)) (
  fm (z_iload_n (j := 3) (by decide +kernel) rfl) (
  fm (z_aload_n (j := 0) (by decide +kernel) rfl) (
  fm (z_getf (idx := 7) awX5 rfl (by decide) wd_4_12 rfl (by decide +kernel)) (
  fm (z_iconst (n := 1) (by decide +kernel) (by decide)) (
  fm (z_iald (by decide +kernel)) (
  fm (z_icmp_ge (off := 54) (by decide +kernel) (by decide)) (
  fm (z_aload_n (j := 0) (by decide +kernel) rfl) (
  fm (z_iload_n (j := 3) (by decide +kernel) rfl) (
  fm (z_iconst (n := 2) (by decide +kernel) (by decide)) (
  fm (z_inv (idx := 62) rfl (by decide +kernel) wd_4_98 wd_4_100 ws_30 wd_1_7 wd_4_101 (by decide +kernel) ⟨Nat.le_of_ble_eq_true rfl, Nat.le_of_ble_eq_true rfl⟩) (
  fm (z_iload_n (j := 1) (by decide +kernel) rfl) (
  fm (z_if_eq (off := 7) (by decide +kernel) (by decide)) (
  fm (z_iconst (n := 0) (by decide +kernel) (by decide)) (
  fm (z_goto (off := 8) (by decide +kernel) (by decide)) (
  fm (z_aload_n (j := 0) (by decide +kernel) rfl) (
  fm (z_iload_n (j := 3) (by decide +kernel) rfl) (
  fm (z_inv (idx := 96) rfl (by decide +kernel) wd_4_170 wd_4_172 ws_40 wd_1_7 wd_4_173 (by decide +kernel) ⟨Nat.le_of_ble_eq_true rfl, Nat.le_of_ble_eq_true rfl⟩) (
  fm (z_isub (by decide +kernel)) (
  fm (z_istore (i := 4) (by decide +kernel) (by decide)) (
  fm (z_iload_n (j := 2) (by decide +kernel) rfl) (
  fm (z_iload (i := 4) (by decide +kernel)) (
  fm (z_if_eq (off := 11) (by decide +kernel) (by decide)) (
  fm (z_aload_n (j := 0) (by decide +kernel) rfl) (
  fm (z_iload_n (j := 3) (by decide +kernel) rfl) (
  fm (z_inv (idx := 82) rfl (by decide +kernel) wd_4_123 wd_4_125 ws_34 wd_1_7 wd_4_126 (by decide +kernel) ⟨Nat.le_of_ble_eq_true rfl, Nat.le_of_ble_eq_true rfl⟩) (
  fm (z_if_ne (off := 9) (by decide +kernel) (by decide)) (
  fm (z_iconst (n := 1) (by decide +kernel) (by decide)) (
  fm (z_iload_n (j := 3) (by decide +kernel) rfl) (
  fm (z_ishl (by decide +kernel)) (
  fm (z_goto (off := 4) (by decide +kernel) (by decide)) (
  fm (z_iconst (n := 0) (by decide +kernel) (by decide)) (
  fm (z_ior (by decide +kernel)) (
  fm (z_istore_n (j := 2) (by decide +kernel) rfl (by decide)) (
  fm (z_iinc (n := 1) (by decide +kernel) (by decide) (by decide)) (
  fm (z_goto (off := (-58)) (by decide +kernel) (by decide)) (
  fm (z_iload_n (j := 2) (by decide +kernel) rfl) (
  fm (z_iret rfl (by decide +kernel)) (fn)))))))))))))))))))))))))))))))))))))))))
def kX5_sumOf : Cd := [(0, s_pushi 0 1), (1, s_istore 2 2), (2, s_pushi 0 3), (3, s_istore 3 4), (4, s_iload 3 5), (5, s_aload 0 6), (6, s_getf 5 0 9), (9, s_pushi 1 10), (10, s_iald 11), (11, s_icmp (fun x y => y ≤ x) 29 14), (14, s_iload 2 15), (15, s_aload 0 16), (16, s_iload 3 17), (17, s_iload 1 18), (18, s_inv mX5_its 5 2 21), (21, s_bin (fun x y => x + y) 22), (22, s_istore 2 23), (23, s_iinc 3 1 26), (26, s_goto 4), (29, s_iload 2 30), (30, s_iret)]
set_option maxRecDepth 20000 in
theorem zX5_sumOf : ∀ q ∈ kX5_sumOf, Snd RX5 cX5_sumOf 4 (some .int) (rmM mX5_sumOf) q.1 q.2 :=
  fm (z_iconst (n := 0) (by decide +kernel) (by decide)) (
  fm (z_istore_n (j := 2) (by decide +kernel) rfl (by decide)) (
  fm (z_iconst (n := 0) (by decide +kernel) (by decide)) (
  fm (z_istore_n (j := 3) (by decide +kernel) rfl (by decide)) (
  fm (z_iload_n (j := 3) (by decide +kernel) rfl) (
  fm (z_aload_n (j := 0) (by decide +kernel) rfl) (
  fm (z_getf (idx := 7) awX5 rfl (by decide) wd_4_12 rfl (by decide +kernel)) (
  fm (z_iconst (n := 1) (by decide +kernel) (by decide)) (
  fm (z_iald (by decide +kernel)) (
  fm (z_icmp_ge (off := 18) (by decide +kernel) (by decide)) (
  fm (z_iload_n (j := 2) (by decide +kernel) rfl) (
  fm (z_aload_n (j := 0) (by decide +kernel) rfl) (
  fm (z_iload_n (j := 3) (by decide +kernel) rfl) (
  fm (z_iload_n (j := 1) (by decide +kernel) rfl) (
  fm (z_inv (idx := 62) rfl (by decide +kernel) wd_4_98 wd_4_100 ws_30 wd_1_7 wd_4_101 (by decide +kernel) ⟨Nat.le_of_ble_eq_true rfl, Nat.le_of_ble_eq_true rfl⟩) (
  fm (z_iadd (by decide +kernel)) (
  fm (z_istore_n (j := 2) (by decide +kernel) rfl (by decide)) (
  fm (z_iinc (n := 1) (by decide +kernel) (by decide) (by decide)) (
  fm (z_goto (off := (-22)) (by decide +kernel) (by decide)) (
  fm (z_iload_n (j := 2) (by decide +kernel) rfl) (
  fm (z_iret rfl (by decide +kernel)) (fn)))))))))))))))))))))
def kX5_swap : Cd := [(0, s_aload 0 1), (1, s_iload 1 2), (2, s_inv mX5_isStall 5 1 5), (5, s_if (fun x => x = 0) 16 8), (8, s_aload 0 9), (9, s_iload 2 10), (10, s_inv mX5_isStall 5 1 13), (13, s_if (fun x => x = 0) 16 23), (16, s_aload 0 17), (17, s_pushi (-1000001) 19), (19, s_inv mX5_finds 5 1 22), (22, s_iret), (23, s_aload 0 24), (24, s_iload 1 25), (25, s_iload 2 26), (26, s_inv mX5_swaps 5 2 29), (29, s_pushi 1 30), (30, s_iret)]
set_option maxRecDepth 20000 in
theorem zX5_swap : ∀ q ∈ kX5_swap, Snd RX5 cX5_swap 3 (some .int) (rmM mX5_swap) q.1 q.2 :=
  fm (z_aload_n (j := 0) (by decide +kernel) rfl) (
  fm (z_iload_n (j := 1) (by decide +kernel) rfl) (
  fm (z_inv (idx := 76) rfl (by decide +kernel) wd_4_115 wd_4_117 ws_32 wd_1_7 wd_4_118 (by decide +kernel) ⟨Nat.le_of_ble_eq_true rfl, Nat.le_of_ble_eq_true rfl⟩) (
  fm (z_if_eq (off := 11) (by decide +kernel) (by decide)) (
  fm (z_aload_n (j := 0) (by decide +kernel) rfl) (
  fm (z_iload_n (j := 2) (by decide +kernel) rfl) (
  fm (z_inv (idx := 76) rfl (by decide +kernel) wd_4_115 wd_4_117 ws_32 wd_1_7 wd_4_118 (by decide +kernel) ⟨Nat.le_of_ble_eq_true rfl, Nat.le_of_ble_eq_true rfl⟩) (
  fm (z_if_ne (off := 10) (by decide +kernel) (by decide)) (
  fm (z_aload_n (j := 0) (by decide +kernel) rfl) (
  fm (z_ldc (i := 40) (by decide +kernel) wd_4_76) (
  fm (z_inv (idx := 58) rfl (by decide +kernel) wd_4_77 wd_4_79 ws_28 wd_1_7 wd_4_80 (by decide +kernel) ⟨Nat.le_of_ble_eq_true rfl, Nat.le_of_ble_eq_true rfl⟩) (
  fm (z_iret rfl (by decide +kernel)) (
  fm (z_aload_n (j := 0) (by decide +kernel) rfl) (
  fm (z_iload_n (j := 1) (by decide +kernel) rfl) (
  fm (z_iload_n (j := 2) (by decide +kernel) rfl) (
  fm (z_inv (idx := 87) rfl (by decide +kernel) wd_4_136 wd_4_138 ws_35 wd_1_7 wd_4_139 (by decide +kernel) ⟨Nat.le_of_ble_eq_true rfl, Nat.le_of_ble_eq_true rfl⟩) (
  fm (z_iconst (n := 1) (by decide +kernel) (by decide)) (
  fm (z_iret rfl (by decide +kernel)) (fn))))))))))))))))))
def kX5_swaps : Cd := [(0, s_aload 0 1), (1, s_iload 1 2), (2, s_pushi 1 3), (3, s_inv mX5_its 5 2 6), (6, s_istore 3 7), (7, s_aload 0 8), (8, s_getf 5 0 11), (11, s_iload 1 12), (12, s_pushi 1 13), (13, s_invS mX5_at 2 16), (16, s_aload 0 17), (17, s_iload 2 18), (18, s_pushi 1 19), (19, s_inv mX5_its 5 2 22), (22, s_iast 23), (23, s_aload 0 24), (24, s_getf 5 0 27), (27, s_iload 2 28), (28, s_pushi 1 29), (29, s_invS mX5_at 2 32), (32, s_iload 3 33), (33, s_iast 34), (34, s_vret)]
set_option maxRecDepth 20000 in
theorem zX5_swaps : ∀ q ∈ kX5_swaps, Snd RX5 cX5_swaps 4 none (rmM mX5_swaps) q.1 q.2 :=
  fm (z_aload_n (j := 0) (by decide +kernel) rfl) (
  fm (z_iload_n (j := 1) (by decide +kernel) rfl) (
  fm (z_iconst (n := 1) (by decide +kernel) (by decide)) (
  fm (z_inv (idx := 62) rfl (by decide +kernel) wd_4_98 wd_4_100 ws_30 wd_1_7 wd_4_101 (by decide +kernel) ⟨Nat.le_of_ble_eq_true rfl, Nat.le_of_ble_eq_true rfl⟩) (
  fm (z_istore_n (j := 3) (by decide +kernel) rfl (by decide)) (
  fm (z_aload_n (j := 0) (by decide +kernel) rfl) (
  fm (z_getf (idx := 7) awX5 rfl (by decide) wd_4_12 rfl (by decide +kernel)) (
  fm (z_iload_n (j := 1) (by decide +kernel) rfl) (
  fm (z_iconst (n := 1) (by decide +kernel) (by decide)) (
  fm (z_invS (idx := 48) (by decide +kernel) wd_4_102 wd_4_103 wd_1_7 wd_4_104 (by decide +kernel) ⟨Nat.le_of_ble_eq_true rfl, Nat.le_of_ble_eq_true rfl⟩) (
  fm (z_aload_n (j := 0) (by decide +kernel) rfl) (
  fm (z_iload_n (j := 2) (by decide +kernel) rfl) (
  fm (z_iconst (n := 1) (by decide +kernel) (by decide)) (
  fm (z_inv (idx := 62) rfl (by decide +kernel) wd_4_98 wd_4_100 ws_30 wd_1_7 wd_4_101 (by decide +kernel) ⟨Nat.le_of_ble_eq_true rfl, Nat.le_of_ble_eq_true rfl⟩) (
  fm (z_iast (by decide +kernel)) (
  fm (z_aload_n (j := 0) (by decide +kernel) rfl) (
  fm (z_getf (idx := 7) awX5 rfl (by decide) wd_4_12 rfl (by decide +kernel)) (
  fm (z_iload_n (j := 2) (by decide +kernel) rfl) (
  fm (z_iconst (n := 1) (by decide +kernel) (by decide)) (
  fm (z_invS (idx := 48) (by decide +kernel) wd_4_102 wd_4_103 wd_1_7 wd_4_104 (by decide +kernel) ⟨Nat.le_of_ble_eq_true rfl, Nat.le_of_ble_eq_true rfl⟩) (
  fm (z_iload_n (j := 3) (by decide +kernel) rfl) (
  fm (z_iast (by decide +kernel)) (
  fm (z_vret rfl (by decide +kernel)) (fn)))))))))))))))))))))))
def kX5_tear : Cd := [(0, s_aload 0 1), (1, s_getf 5 4 4), (4, s_if (fun x => x = 0) 11 7), (7, s_pushi 1 8), (8, s_goto 12), (11, s_pushi 0 12), (12, s_istore 1 13), (13, s_aload 0 14), (14, s_pushi 0 15), (15, s_putf .boolean 5 4 18), (18, s_iload 1 19), (19, s_iret)]
set_option maxRecDepth 20000 in
theorem zX5_tear : ∀ q ∈ kX5_tear, Snd RX5 cX5_tear 2 (some .int) (rmM mX5_tear) q.1 q.2 :=
  fm (z_aload_n (j := 0) (by decide +kernel) rfl) (
  fm (z_getf (idx := 310) awX5 rfl (by decide) wd_4_16 rfl (by decide +kernel)) (
  fm (z_if_eq (off := 7) (by decide +kernel) (by decide)) (
  fm (z_iconst (n := 1) (by decide +kernel) (by decide)) (
  fm (z_goto (off := 4) (by decide +kernel) (by decide)) (
  fm (z_iconst (n := 0) (by decide +kernel) (by decide)) (
  fm (z_istore_n (j := 1) (by decide +kernel) rfl (by decide)) (
  fm (z_aload_n (j := 0) (by decide +kernel) rfl) (
  fm (z_iconst (n := 0) (by decide +kernel) (by decide)) (
  fm (z_putf (idx := 310) tyX5 tyX5_ok nmX5 awX5 rfl (by decide) wd_4_16 rfl rfl (by decide +kernel) (by decide +kernel)) (
  fm (z_iload_n (j := 1) (by decide +kernel) rfl) (
  fm (z_iret rfl (by decide +kernel)) (fn))))))))))))
def kX5_text : Cd := [(0, s_aload 0 1), (1, s_inv mX5_saves 5 0 4), (4, s_aload 0 5), (5, s_pushi 0 6), (6, s_putf .int 5 10 9), (9, s_aload 0 10), (10, s_pushi 0 11), (11, s_putf .boolean 5 12 14), (14, s_aload 0 15), (15, s_inv mX5_token 5 0 18), (18, s_pushi 1 19), (19, s_istore 1 20), (20, s_aload 0 21), (21, s_inv mX5_item 5 0 24), (24, s_aload 0 25), (25, s_getf 5 12 28), (28, s_if (fun x => x = 0) 31 74), (31, s_aload 0 32), (32, s_getf 5 9 35), (35, s_aload 0 36), (36, s_getf 5 8 39), (39, s_icmp (fun x y => y ≤ x) 74 42), (42, s_aload 0 43), (43, s_aload 0 44), (44, s_aload 0 45), (45, s_getf 5 9 48), (48, s_inv mX5_byteAt 5 1 51), (51, s_pushi 59 53), (53, s_icmp (fun x y => x = y) 56 60), (56, s_pushi 1 57), (57, s_goto 61), (60, s_pushi 0 61), (61, s_inv mX5_needs 5 1 64), (64, s_aload 0 65), (65, s_inv mX5_item 5 0 68), (68, s_iinc 1 1 71), (71, s_goto 24), (74, s_aload 0 75), (75, s_pushi 0 76), (76, s_putf .int 5 8 79), (79, s_aload 0 80), (80, s_getf 5 12 83), (83, s_if (fun x => x = 0) 97 86), (86, s_aload 0 87), (87, s_inv mX5_putsBack 5 0 90), (90, s_pushi (-1) 91), (91, s_aload 0 92), (92, s_getf 5 9 95), (95, s_bin (fun x y => x - y) 96), (96, s_iret), (97, s_iload 1 98), (98, s_iret)]
set_option maxRecDepth 20000 in
theorem zX5_text : ∀ q ∈ kX5_text, Snd RX5 cX5_text 2 (some .int) (rmM mX5_text) q.1 q.2 :=
  fm (z_aload_n (j := 0) (by decide +kernel) rfl) (
  fm (z_inv (idx := 130) rfl (by decide +kernel) wd_4_200 wd_4_202 ws_43 wd_1_7 wd_4_203 (by decide +kernel) ⟨Nat.le_of_ble_eq_true rfl, Nat.le_of_ble_eq_true rfl⟩) (
  fm (z_aload_n (j := 0) (by decide +kernel) rfl) (
  fm (z_iconst (n := 0) (by decide +kernel) (by decide)) (
  fm (z_putf (idx := 203) tyX5 tyX5_ok nmX5 awX5 rfl (by decide) wd_4_22 rfl rfl (by decide +kernel) (by decide +kernel)) (
  fm (z_aload_n (j := 0) (by decide +kernel) rfl) (
  fm (z_iconst (n := 0) (by decide +kernel) (by decide)) (
  fm (z_putf (idx := 218) tyX5 tyX5_ok nmX5 awX5 rfl (by decide) wd_4_24 rfl rfl (by decide +kernel) (by decide +kernel)) (
  fm (z_aload_n (j := 0) (by decide +kernel) rfl) (
  fm (z_inv (idx := 222) rfl (by decide +kernel) wd_5_125 wd_5_127 ws_59 wd_1_7 wd_5_128 (by decide +kernel) ⟨Nat.le_of_ble_eq_true rfl, Nat.le_of_ble_eq_true rfl⟩) (
  fm (z_iconst (n := 1) (by decide +kernel) (by decide)) (
  fm (z_istore_n (j := 1) (by decide +kernel) rfl (by decide)) (
  fm (z_aload_n (j := 0) (by decide +kernel) rfl) (
  fm (z_inv (idx := 289) rfl (by decide +kernel) wd_5_142 wd_5_144 ws_61 wd_1_7 wd_5_145 (by decide +kernel) ⟨Nat.le_of_ble_eq_true rfl, Nat.le_of_ble_eq_true rfl⟩) (
  fm (z_aload_n (j := 0) (by decide +kernel) rfl) (
  fm (z_getf (idx := 218) awX5 rfl (by decide) wd_4_24 rfl (by decide +kernel)) (
  fm (z_if_ne (off := 46) (by decide +kernel) (by decide)) (
  fm (z_aload_n (j := 0) (by decide +kernel) rfl) (
  fm (z_getf (idx := 206) awX5 rfl (by decide) wd_4_21 rfl (by decide +kernel)) (
  fm (z_aload_n (j := 0) (by decide +kernel) rfl) (
  fm (z_getf (idx := 194) awX5 rfl (by decide) wd_4_20 rfl (by decide +kernel)) (
  fm (z_icmp_ge (off := 35) (by decide +kernel) (by decide)) (
  fm (z_aload_n (j := 0) (by decide +kernel) rfl) (
  fm (z_aload_n (j := 0) (by decide +kernel) rfl) (
  fm (z_aload_n (j := 0) (by decide +kernel) rfl) (
  fm (z_getf (idx := 206) awX5 rfl (by decide) wd_4_21 rfl (by decide +kernel)) (
  fm (z_inv (idx := 209) rfl (by decide +kernel) wd_5_129 wd_5_131 ws_60 wd_1_7 wd_5_132 (by decide +kernel) ⟨Nat.le_of_ble_eq_true rfl, Nat.le_of_ble_eq_true rfl⟩) (
  fm (z_bipush (n := 59) (by decide +kernel) (by decide)) (
  fm (z_icmp_ne (off := 7) (by decide +kernel) (by decide)) (
  fm (z_iconst (n := 1) (by decide +kernel) (by decide)) (
  fm (z_goto (off := 4) (by decide +kernel) (by decide)) (
  fm (z_iconst (n := 0) (by decide +kernel) (by decide)) (
  fm (z_inv (idx := 232) rfl (by decide +kernel) wd_5_168 wd_5_170 ws_65 wd_1_7 wd_5_171 (by decide +kernel) ⟨Nat.le_of_ble_eq_true rfl, Nat.le_of_ble_eq_true rfl⟩) (
  fm (z_aload_n (j := 0) (by decide +kernel) rfl) (
  fm (z_inv (idx := 289) rfl (by decide +kernel) wd_5_142 wd_5_144 ws_61 wd_1_7 wd_5_145 (by decide +kernel) ⟨Nat.le_of_ble_eq_true rfl, Nat.le_of_ble_eq_true rfl⟩) (
  fm (z_iinc (n := 1) (by decide +kernel) (by decide) (by decide)) (
  fm (z_goto (off := (-47)) (by decide +kernel) (by decide)) (
  fm (z_aload_n (j := 0) (by decide +kernel) rfl) (
  fm (z_iconst (n := 0) (by decide +kernel) (by decide)) (
  fm (z_putf (idx := 194) tyX5 tyX5_ok nmX5 awX5 rfl (by decide) wd_4_20 rfl rfl (by decide +kernel) (by decide +kernel)) (
  fm (z_aload_n (j := 0) (by decide +kernel) rfl) (
  fm (z_getf (idx := 218) awX5 rfl (by decide) wd_4_24 rfl (by decide +kernel)) (
  fm (z_if_eq (off := 14) (by decide +kernel) (by decide)) (
  fm (z_aload_n (j := 0) (by decide +kernel) rfl) (
  fm (z_inv (idx := 142) rfl (by decide +kernel) wd_4_216 wd_4_218 ws_47 wd_1_7 wd_4_219 (by decide +kernel) ⟨Nat.le_of_ble_eq_true rfl, Nat.le_of_ble_eq_true rfl⟩) (
  fm (z_iconst (n := (-1)) (by decide +kernel) (by decide)) (
  fm (z_aload_n (j := 0) (by decide +kernel) rfl) (
  fm (z_getf (idx := 206) awX5 rfl (by decide) wd_4_21 rfl (by decide +kernel)) (
  fm (z_isub (by decide +kernel)) (
  fm (z_iret rfl (by decide +kernel)) (
  fm (z_iload_n (j := 1) (by decide +kernel) rfl) (
  fm (z_iret rfl (by decide +kernel)) (fn))))))))))))))))))))))))))))))))))))))))))))))))))))
def kX5_there : Cd := [(0, s_iload 1 1), (1, s_invS mX5_isPlace 1 4), (4, s_if (fun x => x = 0) 14 7), (7, s_iload 2 8), (8, s_invS mX5_isSpan 1 11), (11, s_if (fun x => x = 0) 14 21), (14, s_aload 0 15), (15, s_pushi (-1000001) 17), (17, s_inv mX5_finds 5 1 20), (20, s_iret), (21, s_aload 0 22), (22, s_iload 2 23), (23, s_inv mX5_isTooLate 5 1 26), (26, s_if (fun x => x = 0) 36 29), (29, s_aload 0 30), (30, s_pushi (-1000005) 32), (32, s_inv mX5_finds 5 1 35), (35, s_iret), (36, s_aload 0 37), (37, s_inv mX5_saves 5 0 40), (40, s_aload 0 41), (41, s_iload 2 42), (42, s_inv mX5_hoursGo 5 1 45), (45, s_istore 3 46), (46, s_aload 0 47), (47, s_iload 1 48), (48, s_inv mX5_stallAt 5 1 51), (51, s_istore 4 53), (53, s_aload 0 54), (54, s_inv mX5_putsBack 5 0 57), (57, s_iload 4 59), (59, s_if (fun x => 0 ≤ x) 71 62), (62, s_aload 0 63), (63, s_pushi (-1000004) 65), (65, s_inv mX5_finds 5 1 68), (68, s_goto 73), (71, s_iload 4 73), (73, s_iret)]
set_option maxRecDepth 20000 in
theorem zX5_there : ∀ q ∈ kX5_there, Snd RX5 cX5_there 5 (some .int) (rmM mX5_there) q.1 q.2 :=
  fm (z_iload_n (j := 1) (by decide +kernel) rfl) (
  fm (z_invS (idx := 52) (by decide +kernel) wd_4_68 wd_4_69 wd_1_7 wd_4_70 (by decide +kernel) ⟨Nat.le_of_ble_eq_true rfl, Nat.le_of_ble_eq_true rfl⟩) (
  fm (z_if_eq (off := 10) (by decide +kernel) (by decide)) (
  fm (z_iload_n (j := 2) (by decide +kernel) rfl) (
  fm (z_invS (idx := 127) (by decide +kernel) wd_4_196 wd_4_197 wd_1_7 wd_4_198 (by decide +kernel) ⟨Nat.le_of_ble_eq_true rfl, Nat.le_of_ble_eq_true rfl⟩) (
  fm (z_if_ne (off := 10) (by decide +kernel) (by decide)) (
  fm (z_aload_n (j := 0) (by decide +kernel) rfl) (
  fm (z_ldc (i := 40) (by decide +kernel) wd_4_76) (
  fm (z_inv (idx := 58) rfl (by decide +kernel) wd_4_77 wd_4_79 ws_28 wd_1_7 wd_4_80 (by decide +kernel) ⟨Nat.le_of_ble_eq_true rfl, Nat.le_of_ble_eq_true rfl⟩) (
  fm (z_iret rfl (by decide +kernel)) (
  fm (z_aload_n (j := 0) (by decide +kernel) rfl) (
  fm (z_iload_n (j := 2) (by decide +kernel) rfl) (
  fm (z_inv (idx := 119) rfl (by decide +kernel) wd_4_158 wd_4_160 ws_37 wd_1_7 wd_4_161 (by decide +kernel) ⟨Nat.le_of_ble_eq_true rfl, Nat.le_of_ble_eq_true rfl⟩) (
  fm (z_if_eq (off := 10) (by decide +kernel) (by decide)) (
  fm (z_aload_n (j := 0) (by decide +kernel) rfl) (
  fm (z_ldc (i := 70) (by decide +kernel) wd_4_105) (
  fm (z_inv (idx := 58) rfl (by decide +kernel) wd_4_77 wd_4_79 ws_28 wd_1_7 wd_4_80 (by decide +kernel) ⟨Nat.le_of_ble_eq_true rfl, Nat.le_of_ble_eq_true rfl⟩) (
  fm (z_iret rfl (by decide +kernel)) (
  fm (z_aload_n (j := 0) (by decide +kernel) rfl) (
  fm (z_inv (idx := 130) rfl (by decide +kernel) wd_4_200 wd_4_202 ws_43 wd_1_7 wd_4_203 (by decide +kernel) ⟨Nat.le_of_ble_eq_true rfl, Nat.le_of_ble_eq_true rfl⟩) (
  fm (z_aload_n (j := 0) (by decide +kernel) rfl) (
  fm (z_iload_n (j := 2) (by decide +kernel) rfl) (
  fm (z_inv (idx := 122) rfl (by decide +kernel) wd_4_162 wd_4_164 ws_38 wd_1_7 wd_4_165 (by decide +kernel) ⟨Nat.le_of_ble_eq_true rfl, Nat.le_of_ble_eq_true rfl⟩) (
  fm (z_istore_n (j := 3) (by decide +kernel) rfl (by decide)) (
  fm (z_aload_n (j := 0) (by decide +kernel) rfl) (
  fm (z_iload_n (j := 1) (by decide +kernel) rfl) (
  fm (z_inv (idx := 67) rfl (by decide +kernel) wd_4_94 wd_4_96 ws_29 wd_1_7 wd_4_97 (by decide +kernel) ⟨Nat.le_of_ble_eq_true rfl, Nat.le_of_ble_eq_true rfl⟩) (
  fm (z_istore (i := 4) (by decide +kernel) (by decide)) (
  fm (z_aload_n (j := 0) (by decide +kernel) rfl) (
  fm (z_inv (idx := 142) rfl (by decide +kernel) wd_4_216 wd_4_218 ws_47 wd_1_7 wd_4_219 (by decide +kernel) ⟨Nat.le_of_ble_eq_true rfl, Nat.le_of_ble_eq_true rfl⟩) (
  fm (z_iload (i := 4) (by decide +kernel)) (
  fm (z_if_ge (off := 12) (by decide +kernel) (by decide)) (
  fm (z_aload_n (j := 0) (by decide +kernel) rfl) (
  fm (z_ldc (i := 145) (by decide +kernel) wd_4_224) (
  fm (z_inv (idx := 58) rfl (by decide +kernel) wd_4_77 wd_4_79 ws_28 wd_1_7 wd_4_80 (by decide +kernel) ⟨Nat.le_of_ble_eq_true rfl, Nat.le_of_ble_eq_true rfl⟩) (
  fm (z_goto (off := 5) (by decide +kernel) (by decide)) (
  fm (z_iload (i := 4) (by decide +kernel)) (
  fm (z_iret rfl (by decide +kernel)) (fn))))))))))))))))))))))))))))))))))))))
def kX5_thief : Cd := [(0, s_iload 1 1), (1, s_invS mX5_isPlace 1 4), (4, s_if (fun x => x = 0) 14 7), (7, s_iload 2 8), (8, s_invS mX5_isSpan 1 11), (11, s_if (fun x => x = 0) 14 21), (14, s_aload 0 15), (15, s_pushi (-1000001) 17), (17, s_inv mX5_finds 5 1 20), (20, s_iret), (21, s_aload 0 22), (22, s_iload 2 23), (23, s_inv mX5_isTooLate 5 1 26), (26, s_if (fun x => x = 0) 36 29), (29, s_aload 0 30), (30, s_pushi (-1000005) 32), (32, s_inv mX5_finds 5 1 35), (35, s_iret), (36, s_aload 0 37), (37, s_inv mX5_saves 5 0 40), (40, s_aload 0 41), (41, s_iload 2 42), (42, s_inv mX5_hoursGo 5 1 45), (45, s_istore 3 46), (46, s_aload 0 47), (47, s_iload 1 48), (48, s_inv mX5_stallAt 5 1 51), (51, s_istore 4 53), (53, s_iload 4 55), (55, s_if (fun x => 0 ≤ x) 62 58), (58, s_pushi 0 59), (59, s_goto 69), (62, s_aload 0 63), (63, s_iload 4 65), (65, s_pushi 2 66), (66, s_inv mX5_its 5 2 69), (69, s_istore 5 71), (71, s_aload 0 72), (72, s_inv mX5_putsBack 5 0 75), (75, s_iload 5 77), (77, s_iret)]
set_option maxRecDepth 20000 in
theorem zX5_thief : ∀ q ∈ kX5_thief, Snd RX5 cX5_thief 6 (some .int) (rmM mX5_thief) q.1 q.2 :=
  fm (z_iload_n (j := 1) (by decide +kernel) rfl) (
  fm (z_invS (idx := 52) (by decide +kernel) wd_4_68 wd_4_69 wd_1_7 wd_4_70 (by decide +kernel) ⟨Nat.le_of_ble_eq_true rfl, Nat.le_of_ble_eq_true rfl⟩) (
  fm (z_if_eq (off := 10) (by decide +kernel) (by decide)) (
  fm (z_iload_n (j := 2) (by decide +kernel) rfl) (
  fm (z_invS (idx := 127) (by decide +kernel) wd_4_196 wd_4_197 wd_1_7 wd_4_198 (by decide +kernel) ⟨Nat.le_of_ble_eq_true rfl, Nat.le_of_ble_eq_true rfl⟩) (
  fm (z_if_ne (off := 10) (by decide +kernel) (by decide)) (
  fm (z_aload_n (j := 0) (by decide +kernel) rfl) (
  fm (z_ldc (i := 40) (by decide +kernel) wd_4_76) (
  fm (z_inv (idx := 58) rfl (by decide +kernel) wd_4_77 wd_4_79 ws_28 wd_1_7 wd_4_80 (by decide +kernel) ⟨Nat.le_of_ble_eq_true rfl, Nat.le_of_ble_eq_true rfl⟩) (
  fm (z_iret rfl (by decide +kernel)) (
  fm (z_aload_n (j := 0) (by decide +kernel) rfl) (
  fm (z_iload_n (j := 2) (by decide +kernel) rfl) (
  fm (z_inv (idx := 119) rfl (by decide +kernel) wd_4_158 wd_4_160 ws_37 wd_1_7 wd_4_161 (by decide +kernel) ⟨Nat.le_of_ble_eq_true rfl, Nat.le_of_ble_eq_true rfl⟩) (
  fm (z_if_eq (off := 10) (by decide +kernel) (by decide)) (
  fm (z_aload_n (j := 0) (by decide +kernel) rfl) (
  fm (z_ldc (i := 70) (by decide +kernel) wd_4_105) (
  fm (z_inv (idx := 58) rfl (by decide +kernel) wd_4_77 wd_4_79 ws_28 wd_1_7 wd_4_80 (by decide +kernel) ⟨Nat.le_of_ble_eq_true rfl, Nat.le_of_ble_eq_true rfl⟩) (
  fm (z_iret rfl (by decide +kernel)) (
  fm (z_aload_n (j := 0) (by decide +kernel) rfl) (
  fm (z_inv (idx := 130) rfl (by decide +kernel) wd_4_200 wd_4_202 ws_43 wd_1_7 wd_4_203 (by decide +kernel) ⟨Nat.le_of_ble_eq_true rfl, Nat.le_of_ble_eq_true rfl⟩) (
  fm (z_aload_n (j := 0) (by decide +kernel) rfl) (
  fm (z_iload_n (j := 2) (by decide +kernel) rfl) (
  fm (z_inv (idx := 122) rfl (by decide +kernel) wd_4_162 wd_4_164 ws_38 wd_1_7 wd_4_165 (by decide +kernel) ⟨Nat.le_of_ble_eq_true rfl, Nat.le_of_ble_eq_true rfl⟩) (
  fm (z_istore_n (j := 3) (by decide +kernel) rfl (by decide)) (
  fm (z_aload_n (j := 0) (by decide +kernel) rfl) (
  fm (z_iload_n (j := 1) (by decide +kernel) rfl) (
  fm (z_inv (idx := 67) rfl (by decide +kernel) wd_4_94 wd_4_96 ws_29 wd_1_7 wd_4_97 (by decide +kernel) ⟨Nat.le_of_ble_eq_true rfl, Nat.le_of_ble_eq_true rfl⟩) (
  fm (z_istore (i := 4) (by decide +kernel) (by decide)) (
  fm (z_iload (i := 4) (by decide +kernel)) (
  fm (z_if_ge (off := 7) (by decide +kernel) (by decide)) (
  fm (z_iconst (n := 0) (by decide +kernel) (by decide)) (
  fm (z_goto (off := 10) (by decide +kernel) (by decide)) (
  fm (z_aload_n (j := 0) (by decide +kernel) rfl) (
  fm (z_iload (i := 4) (by decide +kernel)) (
  fm (z_iconst (n := 2) (by decide +kernel) (by decide)) (
  fm (z_inv (idx := 62) rfl (by decide +kernel) wd_4_98 wd_4_100 ws_30 wd_1_7 wd_4_101 (by decide +kernel) ⟨Nat.le_of_ble_eq_true rfl, Nat.le_of_ble_eq_true rfl⟩) (
  fm (z_istore (i := 5) (by decide +kernel) (by decide)) (
  fm (z_aload_n (j := 0) (by decide +kernel) rfl) (
  fm (z_inv (idx := 142) rfl (by decide +kernel) wd_4_216 wd_4_218 ws_47 wd_1_7 wd_4_219 (by decide +kernel) ⟨Nat.le_of_ble_eq_true rfl, Nat.le_of_ble_eq_true rfl⟩) (
  fm (z_iload (i := 5) (by decide +kernel)) (
  fm (z_iret rfl (by decide +kernel)) (fn)))))))))))))))))))))))))))))))))))))))))
def kX5_throwAway : Cd := [(0, s_aload 0 1), (1, s_iload 1 2), (2, s_inv mX5_isStall 5 1 5), (5, s_if (fun x => x = 0) 15 8), (8, s_iload 2 9), (9, s_invS mX5_isDays 1 12), (12, s_if (fun x => x = 0) 15 22), (15, s_aload 0 16), (16, s_pushi (-1000001) 18), (18, s_inv mX5_finds 5 1 21), (21, s_iret), (22, s_aload 0 23), (23, s_iload 2 24), (24, s_inv mX5_isTooLate 5 1 27), (27, s_if (fun x => x = 0) 37 30), (30, s_aload 0 31), (31, s_pushi (-1000005) 33), (33, s_inv mX5_finds 5 1 36), (36, s_iret), (37, s_aload 0 38), (38, s_inv mX5_saves 5 0 41), (41, s_pushi 0 42), (42, s_istore 3 43), (43, s_pushi (-1) 44), (44, s_istore 4 46), (46, s_pushi 0 47), (47, s_istore 5 49), (49, s_iload 5 51), (51, s_aload 0 52), (52, s_getf 5 2 55), (55, s_iload 1 56), (56, s_pushi 2 57), (57, s_invS mX5_at 2 60), (60, s_iald 61), (61, s_icmp (fun x y => y < x) 123 64), (64, s_aload 0 65), (65, s_getf 5 0 68), (68, s_iload 1 69), (69, s_pushi 2 70), (70, s_invS mX5_at 2 73), (73, s_dup2 74), (74, s_iald 75), (75, s_iload 5 77), (77, s_bin (fun x y => x - y) 78), (78, s_iast 79), (79, s_aload 0 80), (80, s_iload 1 81), (81, s_iload 2 82), (82, s_inv mX5_coinOf 5 2 85), (85, s_istore 6 87), (87, s_iload 6 89), (89, s_iload 4 91), (91, s_icmp (fun x y => x ≤ y) 99 94), (94, s_iload 5 96), (96, s_goto 100), (99, s_iload 3 100), (100, s_istore 3 101), (101, s_iload 6 103), (103, s_iload 4 105), (105, s_icmp (fun x y => x ≤ y) 113 108), (108, s_iload 6 110), (110, s_goto 115), (113, s_iload 4 115), (115, s_istore 4 117), (117, s_iinc 5 1 120), (120, s_goto 49), (123, s_iload 3 124), (124, s_iret)]
set_option maxRecDepth 20000 in
theorem zX5_throwAway : ∀ q ∈ kX5_throwAway, Snd RX5 cX5_throwAway 7 (some .int) (rmM mX5_throwAway) q.1 q.2 :=
  fm (z_aload_n (j := 0) (by decide +kernel) rfl) (
  fm (z_iload_n (j := 1) (by decide +kernel) rfl) (
  fm (z_inv (idx := 76) rfl (by decide +kernel) wd_4_115 wd_4_117 ws_32 wd_1_7 wd_4_118 (by decide +kernel) ⟨Nat.le_of_ble_eq_true rfl, Nat.le_of_ble_eq_true rfl⟩) (
  fm (z_if_eq (off := 10) (by decide +kernel) (by decide)) (
  fm (z_iload_n (j := 2) (by decide +kernel) rfl) (
  fm (z_invS (idx := 169) (by decide +kernel) wd_5_39 wd_5_40 wd_1_7 wd_5_41 (by decide +kernel) ⟨Nat.le_of_ble_eq_true rfl, Nat.le_of_ble_eq_true rfl⟩) (
  fm (z_if_ne (off := 10) (by decide +kernel) (by decide)) (
  fm (z_aload_n (j := 0) (by decide +kernel) rfl) (
  fm (z_ldc (i := 40) (by decide +kernel) wd_4_76) (
  fm (z_inv (idx := 58) rfl (by decide +kernel) wd_4_77 wd_4_79 ws_28 wd_1_7 wd_4_80 (by decide +kernel) ⟨Nat.le_of_ble_eq_true rfl, Nat.le_of_ble_eq_true rfl⟩) (
  fm (z_iret rfl (by decide +kernel)) (
  fm (z_aload_n (j := 0) (by decide +kernel) rfl) (
  fm (z_iload_n (j := 2) (by decide +kernel) rfl) (
  fm (z_inv (idx := 119) rfl (by decide +kernel) wd_4_158 wd_4_160 ws_37 wd_1_7 wd_4_161 (by decide +kernel) ⟨Nat.le_of_ble_eq_true rfl, Nat.le_of_ble_eq_true rfl⟩) (
  fm (z_if_eq (off := 10) (by decide +kernel) (by decide)) (
  fm (z_aload_n (j := 0) (by decide +kernel) rfl) (
  fm (z_ldc (i := 70) (by decide +kernel) wd_4_105) (
  fm (z_inv (idx := 58) rfl (by decide +kernel) wd_4_77 wd_4_79 ws_28 wd_1_7 wd_4_80 (by decide +kernel) ⟨Nat.le_of_ble_eq_true rfl, Nat.le_of_ble_eq_true rfl⟩) (
  fm (z_iret rfl (by decide +kernel)) (
  fm (z_aload_n (j := 0) (by decide +kernel) rfl) (
  fm (z_inv (idx := 130) rfl (by decide +kernel) wd_4_200 wd_4_202 ws_43 wd_1_7 wd_4_203 (by decide +kernel) ⟨Nat.le_of_ble_eq_true rfl, Nat.le_of_ble_eq_true rfl⟩) (
  fm (z_iconst (n := 0) (by decide +kernel) (by decide)) (
  fm (z_istore_n (j := 3) (by decide +kernel) rfl (by decide)) (
  fm (z_iconst (n := (-1)) (by decide +kernel) (by decide)) (
  fm (z_istore (i := 4) (by decide +kernel) (by decide)) (
  fm (z_iconst (n := 0) (by decide +kernel) (by decide)) (
  fm (z_istore (i := 5) (by decide +kernel) (by decide)) (
  fm (z_iload (i := 5) (by decide +kernel)) (
  fm (z_aload_n (j := 0) (by decide +kernel) rfl) (
  fm (z_getf (idx := 16) awX5 rfl (by decide) wd_4_14 rfl (by decide +kernel)) (
  fm (z_iload_n (j := 1) (by decide +kernel) rfl) (
  fm (z_iconst (n := 2) (by decide +kernel) (by decide)) (
  fm (z_invS (idx := 48) (by decide +kernel) wd_4_102 wd_4_103 wd_1_7 wd_4_104 (by decide +kernel) ⟨Nat.le_of_ble_eq_true rfl, Nat.le_of_ble_eq_true rfl⟩) (
  fm (z_iald (by decide +kernel)) (
  fm (z_icmp_gt (off := 62) (by decide +kernel) (by decide)) (
  fm (z_aload_n (j := 0) (by decide +kernel) rfl) (
  fm (z_getf (idx := 7) awX5 rfl (by decide) wd_4_12 rfl (by decide +kernel)) (
  fm (z_iload_n (j := 1) (by decide +kernel) rfl) (
  fm (z_iconst (n := 2) (by decide +kernel) (by decide)) (
  fm (z_invS (idx := 48) (by decide +kernel) wd_4_102 wd_4_103 wd_1_7 wd_4_104 (by decide +kernel) ⟨Nat.le_of_ble_eq_true rfl, Nat.le_of_ble_eq_true rfl⟩) (
  fm (z_dup2 (by decide +kernel)) (
  fm (z_iald (by decide +kernel)) (
  fm (z_iload (i := 5) (by decide +kernel)) (
  fm (z_isub (by decide +kernel)) (
  fm (z_iast (by decide +kernel)) (
  fm (z_aload_n (j := 0) (by decide +kernel) rfl) (
  fm (z_iload_n (j := 1) (by decide +kernel) rfl) (
  fm (z_iload_n (j := 2) (by decide +kernel) rfl) (
  fm (z_inv (idx := 172) rfl (by decide +kernel) wd_5_42 wd_5_44 ws_53 wd_1_7 wd_5_45 (by decide +kernel) ⟨Nat.le_of_ble_eq_true rfl, Nat.le_of_ble_eq_true rfl⟩) (
  fm (z_istore (i := 6) (by decide +kernel) (by decide)) (
  fm (z_iload (i := 6) (by decide +kernel)) (
  fm (z_iload (i := 4) (by decide +kernel)) (
  fm (z_icmp_le (off := 8) (by decide +kernel) (by decide)) (
  fm (z_iload (i := 5) (by decide +kernel)) (
  fm (z_goto (off := 4) (by decide +kernel) (by decide)) (
  fm (z_iload_n (j := 3) (by decide +kernel) rfl) (
  fm (z_istore_n (j := 3) (by decide +kernel) rfl (by decide)) (
  fm (z_iload (i := 6) (by decide +kernel)) (
  fm (z_iload (i := 4) (by decide +kernel)) (
  fm (z_icmp_le (off := 8) (by decide +kernel) (by decide)) (
  fm (z_iload (i := 6) (by decide +kernel)) (
  fm (z_goto (off := 5) (by decide +kernel) (by decide)) (
  fm (z_iload (i := 4) (by decide +kernel)) (
  fm (z_istore (i := 4) (by decide +kernel) (by decide)) (
  fm (z_iinc (n := 1) (by decide +kernel) (by decide) (by decide)) (
  fm (z_goto (off := (-71)) (by decide +kernel) (by decide)) (
  fm (z_iload_n (j := 3) (by decide +kernel) rfl) (
  fm (z_iret rfl (by decide +kernel)) (fn))))))))))))))))))))))))))))))))))))))))))))))))))))))))))))))))))))
def kX5_token : Cd := [(0, s_aload 0 1), (1, s_aload 0 2), (2, s_getf 5 10 5), (5, s_putf .int 5 9 8), (8, s_aload 0 9), (9, s_aload 0 10), (10, s_getf 5 9 13), (13, s_inv mX5_byteAt 5 1 16), (16, s_pushi 32 18), (18, s_icmp (fun x y => x = y) 21 34), (21, s_aload 0 22), (22, s_dup 23), (23, s_getf 5 9 26), (26, s_pushi 1 27), (27, s_bin (fun x y => x + y) 28), (28, s_putf .int 5 9 31), (31, s_goto 8), (34, s_aload 0 35), (35, s_aload 0 36), (36, s_getf 5 9 39), (39, s_inv mX5_byteAt 5 1 42), (42, s_invS mX5_isLetter 1 45), (45, s_istore 1 46), (46, s_aload 0 47), (47, s_aload 0 48), (48, s_getf 5 9 51), (51, s_inv mX5_byteAt 5 1 54), (54, s_invS mX5_isDigit 1 57), (57, s_istore 2 58), (58, s_aload 0 59), (59, s_aload 0 60), (60, s_getf 5 9 63), (63, s_aload 0 64), (64, s_getf 5 8 67), (67, s_icmp (fun x y => y ≤ x) 79 70), (70, s_aload 0 71), (71, s_getf 5 9 74), (74, s_pushi 1 75), (75, s_bin (fun x y => x + y) 76), (76, s_goto 83), (79, s_aload 0 80), (80, s_getf 5 9 83), (83, s_putf .int 5 10 86), (86, s_iload 1 87), (87, s_if (fun x => x = 0) 104 90), (90, s_aload 0 91), (91, s_aload 0 92), (92, s_getf 5 10 95), (95, s_inv mX5_byteAt 5 1 98), (98, s_invS mX5_isLetter 1 101), (101, s_if (fun x => x = 0) 104 122), (104, s_iload 2 105), (105, s_if (fun x => x = 0) 135 108), (108, s_aload 0 109), (109, s_aload 0 110), (110, s_getf 5 10 113), (113, s_inv mX5_byteAt 5 1 116), (116, s_invS mX5_isDigit 1 119), (119, s_if (fun x => x = 0) 135 122), (122, s_aload 0 123), (123, s_dup 124), (124, s_getf 5 10 127), (127, s_pushi 1 128), (128, s_bin (fun x y => x + y) 129), (129, s_putf .int 5 10 132), (132, s_goto 86), (135, s_vret)]
set_option maxRecDepth 20000 in
theorem zX5_token : ∀ q ∈ kX5_token, Snd RX5 cX5_token 3 none (rmM mX5_token) q.1 q.2 :=
  fm (z_aload_n (j := 0) (by decide +kernel) rfl) (
  fm (z_aload_n (j := 0) (by decide +kernel) rfl) (
  fm (z_getf (idx := 203) awX5 rfl (by decide) wd_4_22 rfl (by decide +kernel)) (
  fm (z_putf (idx := 206) tyX5 tyX5_ok nmX5 awX5 rfl (by decide) wd_4_21 rfl rfl (by decide +kernel) (by decide +kernel)) (
  fm (z_aload_n (j := 0) (by decide +kernel) rfl) (
  fm (z_aload_n (j := 0) (by decide +kernel) rfl) (
  fm (z_getf (idx := 206) awX5 rfl (by decide) wd_4_21 rfl (by decide +kernel)) (
  fm (z_inv (idx := 209) rfl (by decide +kernel) wd_5_129 wd_5_131 ws_60 wd_1_7 wd_5_132 (by decide +kernel) ⟨Nat.le_of_ble_eq_true rfl, Nat.le_of_ble_eq_true rfl⟩) (
  fm (z_bipush (n := 32) (by decide +kernel) (by decide)) (
  fm (z_icmp_ne (off := 16) (by decide +kernel) (by decide)) (
  fm (z_aload_n (j := 0) (by decide +kernel) rfl) (
  fm (z_dup (by decide +kernel)) (
  fm (z_getf (idx := 206) awX5 rfl (by decide) wd_4_21 rfl (by decide +kernel)) (
  fm (z_iconst (n := 1) (by decide +kernel) (by decide)) (
  fm (z_iadd (by decide +kernel)) (
  fm (z_putf (idx := 206) tyX5 tyX5_ok nmX5 awX5 rfl (by decide) wd_4_21 rfl rfl (by decide +kernel) (by decide +kernel)) (
  fm (z_goto (off := (-23)) (by decide +kernel) (by decide)) (
  fm (z_aload_n (j := 0) (by decide +kernel) rfl) (
  fm (z_aload_n (j := 0) (by decide +kernel) rfl) (
  fm (z_getf (idx := 206) awX5 rfl (by decide) wd_4_21 rfl (by decide +kernel)) (
  fm (z_inv (idx := 209) rfl (by decide +kernel) wd_5_129 wd_5_131 ws_60 wd_1_7 wd_5_132 (by decide +kernel) ⟨Nat.le_of_ble_eq_true rfl, Nat.le_of_ble_eq_true rfl⟩) (
  fm (z_invS (idx := 212) (by decide +kernel) wd_5_133 wd_5_134 wd_1_7 wd_5_135 (by decide +kernel) ⟨Nat.le_of_ble_eq_true rfl, Nat.le_of_ble_eq_true rfl⟩) (
  fm (z_istore_n (j := 1) (by decide +kernel) rfl (by decide)) (
  fm (z_aload_n (j := 0) (by decide +kernel) rfl) (
  fm (z_aload_n (j := 0) (by decide +kernel) rfl) (
  fm (z_getf (idx := 206) awX5 rfl (by decide) wd_4_21 rfl (by decide +kernel)) (
  fm (z_inv (idx := 209) rfl (by decide +kernel) wd_5_129 wd_5_131 ws_60 wd_1_7 wd_5_132 (by decide +kernel) ⟨Nat.le_of_ble_eq_true rfl, Nat.le_of_ble_eq_true rfl⟩) (
  fm (z_invS (idx := 215) (by decide +kernel) wd_5_138 wd_5_139 wd_1_7 wd_5_140 (by decide +kernel) ⟨Nat.le_of_ble_eq_true rfl, Nat.le_of_ble_eq_true rfl⟩) (
  fm (z_istore_n (j := 2) (by decide +kernel) rfl (by decide)) (
  fm (z_aload_n (j := 0) (by decide +kernel) rfl) (
  fm (z_aload_n (j := 0) (by decide +kernel) rfl) (
  fm (z_getf (idx := 206) awX5 rfl (by decide) wd_4_21 rfl (by decide +kernel)) (
  fm (z_aload_n (j := 0) (by decide +kernel) rfl) (
  fm (z_getf (idx := 194) awX5 rfl (by decide) wd_4_20 rfl (by decide +kernel)) (
  fm (z_icmp_ge (off := 12) (by decide +kernel) (by decide)) (
  fm (z_aload_n (j := 0) (by decide +kernel) rfl) (
  fm (z_getf (idx := 206) awX5 rfl (by decide) wd_4_21 rfl (by decide +kernel)) (
  fm (z_iconst (n := 1) (by decide +kernel) (by decide)) (
  fm (z_iadd (by decide +kernel)) (
  fm (z_goto (off := 7) (by decide +kernel) (by decide)) (
  fm (z_aload_n (j := 0) (by decide +kernel) rfl) (
  fm (z_getf (idx := 206) awX5 rfl (by decide) wd_4_21 rfl (by decide +kernel)) (
  fm (z_putf (idx := 203) tyX5 tyX5_ok nmX5 awX5 rfl (by decide) wd_4_22 rfl rfl (by decide +kernel) (by decide +kernel)) (
  fm (z_iload_n (j := 1) (by decide +kernel) rfl) (
  fm (z_if_eq (off := 17) (by decide +kernel) (by decide)) (
  fm (z_aload_n (j := 0) (by decide +kernel) rfl) (
  fm (z_aload_n (j := 0) (by decide +kernel) rfl) (
  fm (z_getf (idx := 203) awX5 rfl (by decide) wd_4_22 rfl (by decide +kernel)) (
  fm (z_inv (idx := 209) rfl (by decide +kernel) wd_5_129 wd_5_131 ws_60 wd_1_7 wd_5_132 (by decide +kernel) ⟨Nat.le_of_ble_eq_true rfl, Nat.le_of_ble_eq_true rfl⟩) (
  fm (z_invS (idx := 212) (by decide +kernel) wd_5_133 wd_5_134 wd_1_7 wd_5_135 (by decide +kernel) ⟨Nat.le_of_ble_eq_true rfl, Nat.le_of_ble_eq_true rfl⟩) (
  fm (z_if_ne (off := 21) (by decide +kernel) (by decide)) (
  fm (z_iload_n (j := 2) (by decide +kernel) rfl) (
  fm (z_if_eq (off := 30) (by decide +kernel) (by decide)) (
  fm (z_aload_n (j := 0) (by decide +kernel) rfl) (
  fm (z_aload_n (j := 0) (by decide +kernel) rfl) (
  fm (z_getf (idx := 203) awX5 rfl (by decide) wd_4_22 rfl (by decide +kernel)) (
  fm (z_inv (idx := 209) rfl (by decide +kernel) wd_5_129 wd_5_131 ws_60 wd_1_7 wd_5_132 (by decide +kernel) ⟨Nat.le_of_ble_eq_true rfl, Nat.le_of_ble_eq_true rfl⟩) (
  fm (z_invS (idx := 215) (by decide +kernel) wd_5_138 wd_5_139 wd_1_7 wd_5_140 (by decide +kernel) ⟨Nat.le_of_ble_eq_true rfl, Nat.le_of_ble_eq_true rfl⟩) (
  fm (z_if_eq (off := 16) (by decide +kernel) (by decide)) (
  fm (z_aload_n (j := 0) (by decide +kernel) rfl) (
  fm (z_dup (by decide +kernel)) (
  fm (z_getf (idx := 203) awX5 rfl (by decide) wd_4_22 rfl (by decide +kernel)) (
  fm (z_iconst (n := 1) (by decide +kernel) (by decide)) (
  fm (z_iadd (by decide +kernel)) (
  fm (z_putf (idx := 203) tyX5 tyX5_ok nmX5 awX5 rfl (by decide) wd_4_22 rfl rfl (by decide +kernel) (by decide +kernel)) (
  fm (z_goto (off := (-46)) (by decide +kernel) (by decide)) (
  fm (z_vret rfl (by decide +kernel)) (fn)))))))))))))))))))))))))))))))))))))))))))))))))))))))))))))))))))
def kX5_undo : Cd := [(0, s_aload 0 1), (1, s_getf 5 4 4), (4, s_if (fun x => x = 0) 7 14), (7, s_aload 0 8), (8, s_pushi (-1000004) 10), (10, s_inv mX5_finds 5 1 13), (13, s_iret), (14, s_pushi 0 15), (15, s_istore 1 16), (16, s_iload 1 17), (17, s_pushi 78 19), (19, s_icmp (fun x y => y ≤ x) 40 22), (22, s_aload 0 23), (23, s_getf 5 0 26), (26, s_iload 1 27), (27, s_aload 0 28), (28, s_getf 5 1 31), (31, s_iload 1 32), (32, s_iald 33), (33, s_iast 34), (34, s_iinc 1 1 37), (37, s_goto 16), (40, s_aload 0 41), (41, s_getf 5 0 44), (44, s_pushi 0 45), (45, s_iald 46), (46, s_iret)]
set_option maxRecDepth 20000 in
theorem zX5_undo : ∀ q ∈ kX5_undo, Snd RX5 cX5_undo 2 (some .int) (rmM mX5_undo) q.1 q.2 :=
  fm (z_aload_n (j := 0) (by decide +kernel) rfl) (
  fm (z_getf (idx := 310) awX5 rfl (by decide) wd_4_16 rfl (by decide +kernel)) (
  fm (z_if_ne (off := 10) (by decide +kernel) (by decide)) (
  fm (z_aload_n (j := 0) (by decide +kernel) rfl) (
  fm (z_ldc (i := 145) (by decide +kernel) wd_4_224) (
  fm (z_inv (idx := 58) rfl (by decide +kernel) wd_4_77 wd_4_79 ws_28 wd_1_7 wd_4_80 (by decide +kernel) ⟨Nat.le_of_ble_eq_true rfl, Nat.le_of_ble_eq_true rfl⟩) (
  fm (z_iret rfl (by decide +kernel)) (
  fm (z_iconst (n := 0) (by decide +kernel) (by decide)) (
  fm (z_istore_n (j := 1) (by decide +kernel) rfl (by decide)) (
  fm (z_iload_n (j := 1) (by decide +kernel) rfl) (
  fm (z_bipush (n := 78) (by decide +kernel) (by decide)) (
  fm (z_icmp_ge (off := 21) (by decide +kernel) (by decide)) (
  fm (z_aload_n (j := 0) (by decide +kernel) rfl) (
  fm (z_getf (idx := 7) awX5 rfl (by decide) wd_4_12 rfl (by decide +kernel)) (
  fm (z_iload_n (j := 1) (by decide +kernel) rfl) (
  fm (z_aload_n (j := 0) (by decide +kernel) rfl) (
  fm (z_getf (idx := 13) awX5 rfl (by decide) wd_4_13 rfl (by decide +kernel)) (
  fm (z_iload_n (j := 1) (by decide +kernel) rfl) (
  fm (z_iald (by decide +kernel)) (
  fm (z_iast (by decide +kernel)) (
  fm (z_iinc (n := 1) (by decide +kernel) (by decide) (by decide)) (
  fm (z_goto (off := (-21)) (by decide +kernel) (by decide)) (
  fm (z_aload_n (j := 0) (by decide +kernel) rfl) (
  fm (z_getf (idx := 7) awX5 rfl (by decide) wd_4_12 rfl (by decide +kernel)) (
  fm (z_iconst (n := 0) (by decide +kernel) (by decide)) (
  fm (z_iald (by decide +kernel)) (
  fm (z_iret rfl (by decide +kernel)) (fn)))))))))))))))))))))))))))
def kX5_visits : Cd := [(0, s_iload 1 1), (1, s_invS mX5_isPlace 1 4), (4, s_if (fun x => x = 0) 19 7), (7, s_iload 2 8), (8, s_i2l 9), (9, s_pushl 0 10), (10, s_pushl 20 13), (13, s_invS mX5_in 3 16), (16, s_if (fun x => x = 0) 19 26), (19, s_aload 0 20), (20, s_pushi (-1000001) 22), (22, s_inv mX5_finds 5 1 25), (25, s_iret), (26, s_aload 0 27), (27, s_getf 5 0 30), (30, s_pushi 4 31), (31, s_iload 1 32), (32, s_bin (fun x y => x + y) 33), (33, s_iald 34), (34, s_istore 3 35), (35, s_aload 0 36), (36, s_getf 5 0 39), (39, s_pushi 4 40), (40, s_iload 1 41), (41, s_bin (fun x y => x + y) 42), (42, s_iload 2 43), (43, s_iast 44), (44, s_iload 3 45), (45, s_iret)]
set_option maxRecDepth 20000 in
theorem zX5_visits : ∀ q ∈ kX5_visits, Snd RX5 cX5_visits 4 (some .int) (rmM mX5_visits) q.1 q.2 :=
  fm (z_iload_n (j := 1) (by decide +kernel) rfl) (
  fm (z_invS (idx := 52) (by decide +kernel) wd_4_68 wd_4_69 wd_1_7 wd_4_70 (by decide +kernel) ⟨Nat.le_of_ble_eq_true rfl, Nat.le_of_ble_eq_true rfl⟩) (
  fm (z_if_eq (off := 15) (by decide +kernel) (by decide)) (
  fm (z_iload_n (j := 2) (by decide +kernel) rfl) (
  fm (z_i2l (by decide +kernel)) (
  fm (z_lconst (n := 0) (by decide +kernel) (by decide)) (
  fm (z_ldc2 (i := 56) (by decide +kernel) wd_4_75) (
  fm (z_invS (idx := 43) (by decide +kernel) wd_4_72 wd_4_73 wd_1_7 wd_4_74 (by decide +kernel) ⟨Nat.le_of_ble_eq_true rfl, Nat.le_of_ble_eq_true rfl⟩) (
  fm (z_if_ne (off := 10) (by decide +kernel) (by decide)) (
  fm (z_aload_n (j := 0) (by decide +kernel) rfl) (
  fm (z_ldc (i := 40) (by decide +kernel) wd_4_76) (
  fm (z_inv (idx := 58) rfl (by decide +kernel) wd_4_77 wd_4_79 ws_28 wd_1_7 wd_4_80 (by decide +kernel) ⟨Nat.le_of_ble_eq_true rfl, Nat.le_of_ble_eq_true rfl⟩) (
  fm (z_iret rfl (by decide +kernel)) (
  fm (z_aload_n (j := 0) (by decide +kernel) rfl) (
  fm (z_getf (idx := 7) awX5 rfl (by decide) wd_4_12 rfl (by decide +kernel)) (
  fm (z_iconst (n := 4) (by decide +kernel) (by decide)) (
  fm (z_iload_n (j := 1) (by decide +kernel) rfl) (
  fm (z_iadd (by decide +kernel)) (
  fm (z_iald (by decide +kernel)) (
  fm (z_istore_n (j := 3) (by decide +kernel) rfl (by decide)) (
  fm (z_aload_n (j := 0) (by decide +kernel) rfl) (
  fm (z_getf (idx := 7) awX5 rfl (by decide) wd_4_12 rfl (by decide +kernel)) (
  fm (z_iconst (n := 4) (by decide +kernel) (by decide)) (
  fm (z_iload_n (j := 1) (by decide +kernel) rfl) (
  fm (z_iadd (by decide +kernel)) (
  fm (z_iload_n (j := 2) (by decide +kernel) rfl) (
  fm (z_iast (by decide +kernel)) (
  fm (z_iload_n (j := 3) (by decide +kernel) rfl) (
  fm (z_iret rfl (by decide +kernel)) (fn)))))))))))))))))))))))))))))
def kX5_visitsItem : Cd := [(0, s_aload 0 1), (1, s_pushi 1 2), (2, s_pushi 0 3), (3, s_pushi 11 5), (5, s_pushi 0 6), (6, s_inv mX5_perhaps 5 4 9), (9, s_istore 1 10), (10, s_aload 0 11), (11, s_aload 0 12), (12, s_inv mX5_word 5 0 15), (15, s_pushl 655 18), (18, s_lcmp 19), (19, s_if (fun x => x = 0) 22 26), (22, s_pushi 1 23), (23, s_goto 27), (26, s_pushi 0 27), (27, s_iload 1 28), (28, s_pushi 11 30), (30, s_iload 1 31), (31, s_inv mX5_perhaps 5 4 34), (34, s_istore 2 35), (35, s_aload 0 36), (36, s_aload 0 37), (37, s_inv mX5_word 5 0 40), (40, s_pushl 1605 43), (43, s_lcmp 44), (44, s_if (fun x => x = 0) 47 51), (47, s_pushi 1 48), (48, s_goto 52), (51, s_pushi 0 52), (52, s_inv mX5_needs 5 1 55), (55, s_aload 0 56), (56, s_pushi 0 57), (57, s_pushi 20 59), (59, s_inv mX5_number 5 2 62), (62, s_iload 1 63), (63, s_istore 3 64), (64, s_iload 3 65), (65, s_iload 2 66), (66, s_icmp (fun x y => y < x) 94 69), (69, s_aload 0 70), (70, s_getf 5 12 73), (73, s_if (fun x => x = 0) 76 94), (76, s_aload 0 77), (77, s_getf 5 0 80), (80, s_pushi 4 81), (81, s_iload 3 82), (82, s_bin (fun x y => x + y) 83), (83, s_aload 0 84), (84, s_getf 5 11 87), (87, s_iast 88), (88, s_iinc 3 1 91), (91, s_goto 64), (94, s_vret)]
set_option maxRecDepth 20000 in
theorem zX5_visitsItem : ∀ q ∈ kX5_visitsItem, Snd RX5 cX5_visitsItem 4 none (rmM mX5_visitsItem) q.1 q.2 :=
  fm (z_aload_n (j := 0) (by decide +kernel) rfl) (
  fm (z_iconst (n := 1) (by decide +kernel) (by decide)) (
  fm (z_iconst (n := 0) (by decide +kernel) (by decide)) (
  fm (z_bipush (n := 11) (by decide +kernel) (by decide)) (
  fm (z_iconst (n := 0) (by decide +kernel) (by decide)) (
  fm (z_inv (idx := 263) rfl (by decide +kernel) wd_5_178 wd_5_180 ws_67 wd_1_7 wd_5_181 (by decide +kernel) ⟨Nat.le_of_ble_eq_true rfl, Nat.le_of_ble_eq_true rfl⟩) (
  fm (z_istore_n (j := 1) (by decide +kernel) rfl (by decide)) (
  fm (z_aload_n (j := 0) (by decide +kernel) rfl) (
  fm (z_aload_n (j := 0) (by decide +kernel) rfl) (
  fm (z_inv (idx := 236) rfl (by decide +kernel) wd_5_150 wd_5_152 ws_63 wd_1_7 wd_5_153 (by decide +kernel) ⟨Nat.le_of_ble_eq_true rfl, Nat.le_of_ble_eq_true rfl⟩) (
  fm (z_ldc2 (i := 267) (by decide +kernel) wd_5_191) (
  fm (z_lcmp (by decide +kernel)) (
  fm (z_if_ne (off := 7) (by decide +kernel) (by decide)) (
  fm (z_iconst (n := 1) (by decide +kernel) (by decide)) (
  fm (z_goto (off := 4) (by decide +kernel) (by decide)) (
  fm (z_iconst (n := 0) (by decide +kernel) (by decide)) (
  fm (z_iload_n (j := 1) (by decide +kernel) rfl) (
  fm (z_bipush (n := 11) (by decide +kernel) (by decide)) (
  fm (z_iload_n (j := 1) (by decide +kernel) rfl) (
  fm (z_inv (idx := 263) rfl (by decide +kernel) wd_5_178 wd_5_180 ws_67 wd_1_7 wd_5_181 (by decide +kernel) ⟨Nat.le_of_ble_eq_true rfl, Nat.le_of_ble_eq_true rfl⟩) (
  fm (z_istore_n (j := 2) (by decide +kernel) rfl (by decide)) (
  fm (z_aload_n (j := 0) (by decide +kernel) rfl) (
  fm (z_aload_n (j := 0) (by decide +kernel) rfl) (
  fm (z_inv (idx := 236) rfl (by decide +kernel) wd_5_150 wd_5_152 ws_63 wd_1_7 wd_5_153 (by decide +kernel) ⟨Nat.le_of_ble_eq_true rfl, Nat.le_of_ble_eq_true rfl⟩) (
  fm (z_ldc2 (i := 269) (by decide +kernel) wd_5_192) (
  fm (z_lcmp (by decide +kernel)) (
  fm (z_if_ne (off := 7) (by decide +kernel) (by decide)) (
  fm (z_iconst (n := 1) (by decide +kernel) (by decide)) (
  fm (z_goto (off := 4) (by decide +kernel) (by decide)) (
  fm (z_iconst (n := 0) (by decide +kernel) (by decide)) (
  fm (z_inv (idx := 232) rfl (by decide +kernel) wd_5_168 wd_5_170 ws_65 wd_1_7 wd_5_171 (by decide +kernel) ⟨Nat.le_of_ble_eq_true rfl, Nat.le_of_ble_eq_true rfl⟩) (
  fm (z_aload_n (j := 0) (by decide +kernel) rfl) (
  fm (z_iconst (n := 0) (by decide +kernel) (by decide)) (
  fm (z_bipush (n := 20) (by decide +kernel) (by decide)) (
  fm (z_inv (idx := 254) rfl (by decide +kernel) wd_5_182 wd_5_184 ws_68 wd_1_7 wd_5_185 (by decide +kernel) ⟨Nat.le_of_ble_eq_true rfl, Nat.le_of_ble_eq_true rfl⟩) (
  fm (z_iload_n (j := 1) (by decide +kernel) rfl) (
  fm (z_istore_n (j := 3) (by decide +kernel) rfl (by decide)) (
  fm (z_iload_n (j := 3) (by decide +kernel) rfl) (
  fm (z_iload_n (j := 2) (by decide +kernel) rfl) (
  fm (z_icmp_gt (off := 28) (by decide +kernel) (by decide)) (
  fm (z_aload_n (j := 0) (by decide +kernel) rfl) (
  fm (z_getf (idx := 218) awX5 rfl (by decide) wd_4_24 rfl (by decide +kernel)) (
  fm (z_if_ne (off := 21) (by decide +kernel) (by decide)) (
  fm (z_aload_n (j := 0) (by decide +kernel) rfl) (
  fm (z_getf (idx := 7) awX5 rfl (by decide) wd_4_12 rfl (by decide +kernel)) (
  fm (z_iconst (n := 4) (by decide +kernel) (by decide)) (
  fm (z_iload_n (j := 3) (by decide +kernel) rfl) (
  fm (z_iadd (by decide +kernel)) (
  fm (z_aload_n (j := 0) (by decide +kernel) rfl) (
  fm (z_getf (idx := 229) awX5 rfl (by decide) wd_4_23 rfl (by decide +kernel)) (
  fm (z_iast (by decide +kernel)) (
  fm (z_iinc (n := 1) (by decide +kernel) (by decide) (by decide)) (
  fm (z_goto (off := (-27)) (by decide +kernel) (by decide)) (
  fm (z_vret rfl (by decide +kernel)) (fn))))))))))))))))))))))))))))))))))))))))))))))))))))))
def kX5_visitsOfAll : Cd := [(0, s_pushi 0 1), (1, s_istore 1 2), (2, s_pushi 0 3), (3, s_istore 2 4), (4, s_iload 2 5), (5, s_pushi 12 7), (7, s_icmp (fun x y => y ≤ x) 27 10), (10, s_iload 1 11), (11, s_aload 0 12), (12, s_getf 5 0 15), (15, s_pushi 4 16), (16, s_iload 2 17), (17, s_bin (fun x y => x + y) 18), (18, s_iald 19), (19, s_bin (fun x y => x + y) 20), (20, s_istore 1 21), (21, s_iinc 2 1 24), (24, s_goto 4), (27, s_iload 1 28), (28, s_iret)]
set_option maxRecDepth 20000 in
theorem zX5_visitsOfAll : ∀ q ∈ kX5_visitsOfAll, Snd RX5 cX5_visitsOfAll 3 (some .int) (rmM mX5_visitsOfAll) q.1 q.2 :=
  fm (z_iconst (n := 0) (by decide +kernel) (by decide)) (
  fm (z_istore_n (j := 1) (by decide +kernel) rfl (by decide)) (
  fm (z_iconst (n := 0) (by decide +kernel) (by decide)) (
  fm (z_istore_n (j := 2) (by decide +kernel) rfl (by decide)) (
  fm (z_iload_n (j := 2) (by decide +kernel) rfl) (
  fm (z_bipush (n := 12) (by decide +kernel) (by decide)) (
  fm (z_icmp_ge (off := 20) (by decide +kernel) (by decide)) (
  fm (z_iload_n (j := 1) (by decide +kernel) rfl) (
  fm (z_aload_n (j := 0) (by decide +kernel) rfl) (
  fm (z_getf (idx := 7) awX5 rfl (by decide) wd_4_12 rfl (by decide +kernel)) (
  fm (z_iconst (n := 4) (by decide +kernel) (by decide)) (
  fm (z_iload_n (j := 2) (by decide +kernel) rfl) (
  fm (z_iadd (by decide +kernel)) (
  fm (z_iald (by decide +kernel)) (
  fm (z_iadd (by decide +kernel)) (
  fm (z_istore_n (j := 1) (by decide +kernel) rfl (by decide)) (
  fm (z_iinc (n := 1) (by decide +kernel) (by decide) (by decide)) (
  fm (z_goto (off := (-20)) (by decide +kernel) (by decide)) (
  fm (z_iload_n (j := 1) (by decide +kernel) rfl) (
  fm (z_iret rfl (by decide +kernel)) (fn))))))))))))))))))))
def kX5_when : Cd := [(0, s_aload 0 1), (1, s_iload 1 2), (2, s_inv mX5_isStall 5 1 5), (5, s_if (fun x => x = 0) 15 8), (8, s_iload 2 9), (9, s_invS mX5_isPlace 1 12), (12, s_if (fun x => x = 0) 15 22), (15, s_aload 0 16), (16, s_pushi (-1000001) 18), (18, s_inv mX5_finds 5 1 21), (21, s_iret), (22, s_aload 0 23), (23, s_pushi 96 25), (25, s_inv mX5_isTooLate 5 1 28), (28, s_if (fun x => x = 0) 38 31), (31, s_aload 0 32), (32, s_pushi (-1000005) 34), (34, s_inv mX5_finds 5 1 37), (37, s_iret), (38, s_aload 0 39), (39, s_inv mX5_saves 5 0 42), (42, s_pushi 0 43), (43, s_istore 3 44), (44, s_iload 3 45), (45, s_pushi 97 47), (47, s_icmp (fun x y => y ≤ x) 72 50), (50, s_aload 0 51), (51, s_iload 1 52), (52, s_pushi 1 53), (53, s_inv mX5_its 5 2 56), (56, s_iload 2 57), (57, s_icmp (fun x y => x = y) 72 60), (60, s_aload 0 61), (61, s_inv mX5_hour 5 0 64), (64, s_istore 4 66), (66, s_iinc 3 1 69), (69, s_goto 44), (72, s_aload 0 73), (73, s_inv mX5_putsBack 5 0 76), (76, s_iload 3 77), (77, s_pushi 96 79), (79, s_icmp (fun x y => x ≤ y) 91 82), (82, s_aload 0 83), (83, s_pushi (-1000004) 85), (85, s_inv mX5_finds 5 1 88), (88, s_goto 92), (91, s_iload 3 92), (92, s_iret)]
set_option maxRecDepth 20000 in
theorem zX5_when : ∀ q ∈ kX5_when, Snd RX5 cX5_when 5 (some .int) (rmM mX5_when) q.1 q.2 :=
  fm (z_aload_n (j := 0) (by decide +kernel) rfl) (
  fm (z_iload_n (j := 1) (by decide +kernel) rfl) (
  fm (z_inv (idx := 76) rfl (by decide +kernel) wd_4_115 wd_4_117 ws_32 wd_1_7 wd_4_118 (by decide +kernel) ⟨Nat.le_of_ble_eq_true rfl, Nat.le_of_ble_eq_true rfl⟩) (
  fm (z_if_eq (off := 10) (by decide +kernel) (by decide)) (
  fm (z_iload_n (j := 2) (by decide +kernel) rfl) (
  fm (z_invS (idx := 52) (by decide +kernel) wd_4_68 wd_4_69 wd_1_7 wd_4_70 (by decide +kernel) ⟨Nat.le_of_ble_eq_true rfl, Nat.le_of_ble_eq_true rfl⟩) (
  fm (z_if_ne (off := 10) (by decide +kernel) (by decide)) (
  fm (z_aload_n (j := 0) (by decide +kernel) rfl) (
  fm (z_ldc (i := 40) (by decide +kernel) wd_4_76) (
  fm (z_inv (idx := 58) rfl (by decide +kernel) wd_4_77 wd_4_79 ws_28 wd_1_7 wd_4_80 (by decide +kernel) ⟨Nat.le_of_ble_eq_true rfl, Nat.le_of_ble_eq_true rfl⟩) (
  fm (z_iret rfl (by decide +kernel)) (
  fm (z_aload_n (j := 0) (by decide +kernel) rfl) (
  fm (z_bipush (n := 96) (by decide +kernel) (by decide)) (
  fm (z_inv (idx := 119) rfl (by decide +kernel) wd_4_158 wd_4_160 ws_37 wd_1_7 wd_4_161 (by decide +kernel) ⟨Nat.le_of_ble_eq_true rfl, Nat.le_of_ble_eq_true rfl⟩) (
  fm (z_if_eq (off := 10) (by decide +kernel) (by decide)) (
  fm (z_aload_n (j := 0) (by decide +kernel) rfl) (
  fm (z_ldc (i := 70) (by decide +kernel) wd_4_105) (
  fm (z_inv (idx := 58) rfl (by decide +kernel) wd_4_77 wd_4_79 ws_28 wd_1_7 wd_4_80 (by decide +kernel) ⟨Nat.le_of_ble_eq_true rfl, Nat.le_of_ble_eq_true rfl⟩) (
  fm (z_iret rfl (by decide +kernel)) (
  fm (z_aload_n (j := 0) (by decide +kernel) rfl) (
  fm (z_inv (idx := 130) rfl (by decide +kernel) wd_4_200 wd_4_202 ws_43 wd_1_7 wd_4_203 (by decide +kernel) ⟨Nat.le_of_ble_eq_true rfl, Nat.le_of_ble_eq_true rfl⟩) (
  fm (z_iconst (n := 0) (by decide +kernel) (by decide)) (
  fm (z_istore_n (j := 3) (by decide +kernel) rfl (by decide)) (
  fm (z_iload_n (j := 3) (by decide +kernel) rfl) (
  fm (z_bipush (n := 97) (by decide +kernel) (by decide)) (
  fm (z_icmp_ge (off := 25) (by decide +kernel) (by decide)) (
  fm (z_aload_n (j := 0) (by decide +kernel) rfl) (
  fm (z_iload_n (j := 1) (by decide +kernel) rfl) (
  fm (z_iconst (n := 1) (by decide +kernel) (by decide)) (
  fm (z_inv (idx := 62) rfl (by decide +kernel) wd_4_98 wd_4_100 ws_30 wd_1_7 wd_4_101 (by decide +kernel) ⟨Nat.le_of_ble_eq_true rfl, Nat.le_of_ble_eq_true rfl⟩) (
  fm (z_iload_n (j := 2) (by decide +kernel) rfl) (
  fm (z_icmp_eq (off := 15) (by decide +kernel) (by decide)) (
  fm (z_aload_n (j := 0) (by decide +kernel) rfl) (
  fm (z_inv (idx := 113) rfl (by decide +kernel) wd_4_166 wd_4_168 ws_39 wd_1_7 wd_4_169 (by decide +kernel) ⟨Nat.le_of_ble_eq_true rfl, Nat.le_of_ble_eq_true rfl⟩) (
  fm (z_istore (i := 4) (by decide +kernel) (by decide)) (
  fm (z_iinc (n := 1) (by decide +kernel) (by decide) (by decide)) (
  fm (z_goto (off := (-25)) (by decide +kernel) (by decide)) (
  fm (z_aload_n (j := 0) (by decide +kernel) rfl) (
  fm (z_inv (idx := 142) rfl (by decide +kernel) wd_4_216 wd_4_218 ws_47 wd_1_7 wd_4_219 (by decide +kernel) ⟨Nat.le_of_ble_eq_true rfl, Nat.le_of_ble_eq_true rfl⟩) (
  fm (z_iload_n (j := 3) (by decide +kernel) rfl) (
  fm (z_bipush (n := 96) (by decide +kernel) (by decide)) (
  fm (z_icmp_le (off := 12) (by decide +kernel) (by decide)) (
  fm (z_aload_n (j := 0) (by decide +kernel) rfl) (
  fm (z_ldc (i := 145) (by decide +kernel) wd_4_224) (
  fm (z_inv (idx := 58) rfl (by decide +kernel) wd_4_77 wd_4_79 ws_28 wd_1_7 wd_4_80 (by decide +kernel) ⟨Nat.le_of_ble_eq_true rfl, Nat.le_of_ble_eq_true rfl⟩) (
  fm (z_goto (off := 4) (by decide +kernel) (by decide)) (
  fm (z_iload_n (j := 3) (by decide +kernel) rfl) (
  fm (z_iret rfl (by decide +kernel)) (fn))))))))))))))))))))))))))))))))))))))))))))))))
def kX5_wipe : Cd := [(0, s_aload 0 1), (1, s_getf 5 8 4), (4, s_istore 1 5), (5, s_aload 0 6), (6, s_pushi 0 7), (7, s_putf .int 5 8 10), (10, s_iload 1 11), (11, s_iret)]
set_option maxRecDepth 20000 in
theorem zX5_wipe : ∀ q ∈ kX5_wipe, Snd RX5 cX5_wipe 2 (some .int) (rmM mX5_wipe) q.1 q.2 :=
  fm (z_aload_n (j := 0) (by decide +kernel) rfl) (
  fm (z_getf (idx := 194) awX5 rfl (by decide) wd_4_20 rfl (by decide +kernel)) (
  fm (z_istore_n (j := 1) (by decide +kernel) rfl (by decide)) (
  fm (z_aload_n (j := 0) (by decide +kernel) rfl) (
  fm (z_iconst (n := 0) (by decide +kernel) (by decide)) (
  fm (z_putf (idx := 194) tyX5 tyX5_ok nmX5 awX5 rfl (by decide) wd_4_20 rfl rfl (by decide +kernel) (by decide +kernel)) (
  fm (z_iload_n (j := 1) (by decide +kernel) rfl) (
  fm (z_iret rfl (by decide +kernel)) (fn))))))))
def kX5_wishes : Cd := [(0, s_aload 0 1), (1, s_iload 1 2), (2, s_inv mX5_isStall 5 1 5), (5, s_if (fun x => x = 0) 15 8), (8, s_iload 2 9), (9, s_invS mX5_isDays 1 12), (12, s_if (fun x => x = 0) 15 22), (15, s_aload 0 16), (16, s_pushi (-1000001) 18), (18, s_inv mX5_finds 5 1 21), (21, s_iret), (22, s_aload 0 23), (23, s_iload 2 24), (24, s_inv mX5_isTooLate 5 1 27), (27, s_if (fun x => x = 0) 37 30), (30, s_aload 0 31), (31, s_pushi (-1000005) 33), (33, s_inv mX5_finds 5 1 36), (36, s_iret), (37, s_aload 0 38), (38, s_inv mX5_saves 5 0 41), (41, s_iload 1 42), (42, s_istore 3 43), (43, s_aload 0 44), (44, s_iload 1 45), (45, s_iload 2 46), (46, s_inv mX5_coinOf 5 2 49), (49, s_istore 4 51), (51, s_pushi 0 52), (52, s_istore 5 54), (54, s_iload 5 56), (56, s_aload 0 57), (57, s_getf 5 0 60), (60, s_pushi 1 61), (61, s_iald 62), (62, s_icmp (fun x y => y ≤ x) 116 65), (65, s_aload 0 66), (66, s_iload 1 67), (67, s_iload 5 69), (69, s_inv mX5_swaps 5 2 72), (72, s_aload 0 73), (73, s_iload 1 74), (74, s_iload 2 75), (75, s_inv mX5_coinOf 5 2 78), (78, s_istore 6 80), (80, s_iload 6 82), (82, s_iload 4 84), (84, s_icmp (fun x y => x ≤ y) 92 87), (87, s_iload 5 89), (89, s_goto 93), (92, s_iload 3 93), (93, s_istore 3 94), (94, s_iload 6 96), (96, s_iload 4 98), (98, s_icmp (fun x y => x ≤ y) 106 101), (101, s_iload 6 103), (103, s_goto 108), (106, s_iload 4 108), (108, s_istore 4 110), (110, s_iinc 5 1 113), (113, s_goto 54), (116, s_iload 3 117), (117, s_iret)]
set_option maxRecDepth 20000 in
theorem zX5_wishes : ∀ q ∈ kX5_wishes, Snd RX5 cX5_wishes 7 (some .int) (rmM mX5_wishes) q.1 q.2 :=
  fm (z_aload_n (j := 0) (by decide +kernel) rfl) (
  fm (z_iload_n (j := 1) (by decide +kernel) rfl) (
  fm (z_inv (idx := 76) rfl (by decide +kernel) wd_4_115 wd_4_117 ws_32 wd_1_7 wd_4_118 (by decide +kernel) ⟨Nat.le_of_ble_eq_true rfl, Nat.le_of_ble_eq_true rfl⟩) (
  fm (z_if_eq (off := 10) (by decide +kernel) (by decide)) (
  fm (z_iload_n (j := 2) (by decide +kernel) rfl) (
  fm (z_invS (idx := 169) (by decide +kernel) wd_5_39 wd_5_40 wd_1_7 wd_5_41 (by decide +kernel) ⟨Nat.le_of_ble_eq_true rfl, Nat.le_of_ble_eq_true rfl⟩) (
  fm (z_if_ne (off := 10) (by decide +kernel) (by decide)) (
  fm (z_aload_n (j := 0) (by decide +kernel) rfl) (
  fm (z_ldc (i := 40) (by decide +kernel) wd_4_76) (
  fm (z_inv (idx := 58) rfl (by decide +kernel) wd_4_77 wd_4_79 ws_28 wd_1_7 wd_4_80 (by decide +kernel) ⟨Nat.le_of_ble_eq_true rfl, Nat.le_of_ble_eq_true rfl⟩) (
  fm (z_iret rfl (by decide +kernel)) (
  fm (z_aload_n (j := 0) (by decide +kernel) rfl) (
  fm (z_iload_n (j := 2) (by decide +kernel) rfl) (
  fm (z_inv (idx := 119) rfl (by decide +kernel) wd_4_158 wd_4_160 ws_37 wd_1_7 wd_4_161 (by decide +kernel) ⟨Nat.le_of_ble_eq_true rfl, Nat.le_of_ble_eq_true rfl⟩) (
  fm (z_if_eq (off := 10) (by decide +kernel) (by decide)) (
  fm (z_aload_n (j := 0) (by decide +kernel) rfl) (
  fm (z_ldc (i := 70) (by decide +kernel) wd_4_105) (
  fm (z_inv (idx := 58) rfl (by decide +kernel) wd_4_77 wd_4_79 ws_28 wd_1_7 wd_4_80 (by decide +kernel) ⟨Nat.le_of_ble_eq_true rfl, Nat.le_of_ble_eq_true rfl⟩) (
  fm (z_iret rfl (by decide +kernel)) (
  fm (z_aload_n (j := 0) (by decide +kernel) rfl) (
  fm (z_inv (idx := 130) rfl (by decide +kernel) wd_4_200 wd_4_202 ws_43 wd_1_7 wd_4_203 (by decide +kernel) ⟨Nat.le_of_ble_eq_true rfl, Nat.le_of_ble_eq_true rfl⟩) (
  fm (z_iload_n (j := 1) (by decide +kernel) rfl) (
  fm (z_istore_n (j := 3) (by decide +kernel) rfl (by decide)) (
  fm (z_aload_n (j := 0) (by decide +kernel) rfl) (
  fm (z_iload_n (j := 1) (by decide +kernel) rfl) (
  fm (z_iload_n (j := 2) (by decide +kernel) rfl) (
  fm (z_inv (idx := 172) rfl (by decide +kernel) wd_5_42 wd_5_44 ws_53 wd_1_7 wd_5_45 (by decide +kernel) ⟨Nat.le_of_ble_eq_true rfl, Nat.le_of_ble_eq_true rfl⟩) (
  fm (z_istore (i := 4) (by decide +kernel) (by decide)) (
  fm (z_iconst (n := 0) (by decide +kernel) (by decide)) (
  fm (z_istore (i := 5) (by decide +kernel) (by decide)) (
  fm (z_iload (i := 5) (by decide +kernel)) (
  fm (z_aload_n (j := 0) (by decide +kernel) rfl) (
  fm (z_getf (idx := 7) awX5 rfl (by decide) wd_4_12 rfl (by decide +kernel)) (
  fm (z_iconst (n := 1) (by decide +kernel) (by decide)) (
  fm (z_iald (by decide +kernel)) (
  fm (z_icmp_ge (off := 54) (by decide +kernel) (by decide)) (
  fm (z_aload_n (j := 0) (by decide +kernel) rfl) (
  fm (z_iload_n (j := 1) (by decide +kernel) rfl) (
  fm (z_iload (i := 5) (by decide +kernel)) (
  fm (z_inv (idx := 87) rfl (by decide +kernel) wd_4_136 wd_4_138 ws_35 wd_1_7 wd_4_139 (by decide +kernel) ⟨Nat.le_of_ble_eq_true rfl, Nat.le_of_ble_eq_true rfl⟩) (
  fm (z_aload_n (j := 0) (by decide +kernel) rfl) (
  fm (z_iload_n (j := 1) (by decide +kernel) rfl) (
  fm (z_iload_n (j := 2) (by decide +kernel) rfl) (
  fm (z_inv (idx := 172) rfl (by decide +kernel) wd_5_42 wd_5_44 ws_53 wd_1_7 wd_5_45 (by decide +kernel) ⟨Nat.le_of_ble_eq_true rfl, Nat.le_of_ble_eq_true rfl⟩) (
  fm (z_istore (i := 6) (by decide +kernel) (by decide)) (
  fm (z_iload (i := 6) (by decide +kernel)) (
  fm (z_iload (i := 4) (by decide +kernel)) (
  fm (z_icmp_le (off := 8) (by decide +kernel) (by decide)) (
  fm (z_iload (i := 5) (by decide +kernel)) (
  fm (z_goto (off := 4) (by decide +kernel) (by decide)) (
  fm (z_iload_n (j := 3) (by decide +kernel) rfl) (
  fm (z_istore_n (j := 3) (by decide +kernel) rfl (by decide)) (
  fm (z_iload (i := 6) (by decide +kernel)) (
  fm (z_iload (i := 4) (by decide +kernel)) (
  fm (z_icmp_le (off := 8) (by decide +kernel) (by decide)) (
  fm (z_iload (i := 6) (by decide +kernel)) (
  fm (z_goto (off := 5) (by decide +kernel) (by decide)) (
  fm (z_iload (i := 4) (by decide +kernel)) (
  fm (z_istore (i := 4) (by decide +kernel) (by decide)) (
  fm (z_iinc (n := 1) (by decide +kernel) (by decide) (by decide)) (
  fm (z_goto (off := (-59)) (by decide +kernel) (by decide)) (
  fm (z_iload_n (j := 3) (by decide +kernel) rfl) (
  fm (z_iret rfl (by decide +kernel)) (fn)))))))))))))))))))))))))))))))))))))))))))))))))))))))))))))))
def kX5_word : Cd := [(0, s_pushl 0 1), (1, s_lstore 1 2), (2, s_aload 0 3), (3, s_getf 5 9 6), (6, s_istore 3 7), (7, s_iload 3 8), (8, s_aload 0 9), (9, s_getf 5 10 12), (12, s_icmp (fun x y => y ≤ x) 50 15), (15, s_lload 1 16), (16, s_pushl 36028797018963967 19), (19, s_lcmp 20), (20, s_if (fun x => x ≤ 0) 27 23), (23, s_lload 1 24), (24, s_goto 43), (27, s_pushl 32 30), (30, s_lload 1 31), (31, s_lbin (fun x y => x * y) 32), (32, s_aload 0 33), (33, s_getf 5 7 36), (36, s_iload 3 37), (37, s_iald 38), (38, s_pushi 96 40), (40, s_bin (fun x y => x - y) 41), (41, s_i2l 42), (42, s_lbin (fun x y => x + y) 43), (43, s_lstore 1 44), (44, s_iinc 3 1 47), (47, s_goto 7), (50, s_aload 0 51), (51, s_getf 5 12 54), (54, s_if (fun x => x = 0) 57 71), (57, s_aload 0 58), (58, s_aload 0 59), (59, s_getf 5 9 62), (62, s_inv mX5_byteAt 5 1 65), (65, s_invS mX5_isLetter 1 68), (68, s_if (fun x => x = 0) 71 75), (71, s_pushl 0 72), (72, s_goto 76), (75, s_lload 1 76), (76, s_lret)]
set_option maxRecDepth 20000 in
theorem zX5_word : ∀ q ∈ kX5_word, Snd RX5 cX5_word 4 (some .long) (rmM mX5_word) q.1 q.2 :=
  fm (z_lconst (n := 0) (by decide +kernel) (by decide)) (
  fm (z_lstore_n (j := 1) (by decide +kernel) rfl (by decide)) (
  fm (z_aload_n (j := 0) (by decide +kernel) rfl) (
  fm (z_getf (idx := 206) awX5 rfl (by decide) wd_4_21 rfl (by decide +kernel)) (
  fm (z_istore_n (j := 3) (by decide +kernel) rfl (by decide)) (
  fm (z_iload_n (j := 3) (by decide +kernel) rfl) (
  fm (z_aload_n (j := 0) (by decide +kernel) rfl) (
  fm (z_getf (idx := 203) awX5 rfl (by decide) wd_4_22 rfl (by decide +kernel)) (
  fm (z_icmp_ge (off := 38) (by decide +kernel) (by decide)) (
  fm (z_lload_n (j := 1) (by decide +kernel) rfl) (
  fm (z_ldc2 (i := 225) (by decide +kernel) wd_5_154) (
  fm (z_lcmp (by decide +kernel)) (
  fm (z_if_le (off := 7) (by decide +kernel) (by decide)) (
  fm (z_lload_n (j := 1) (by decide +kernel) rfl) (
  fm (z_goto (off := 19) (by decide +kernel) (by decide)) (
  fm (z_ldc2 (i := 227) (by decide +kernel) wd_5_155) (
  fm (z_lload_n (j := 1) (by decide +kernel) rfl) (
  fm (z_lmul (by decide +kernel)) (
  fm (z_aload_n (j := 0) (by decide +kernel) rfl) (
  fm (z_getf (idx := 25) awX5 rfl (by decide) wd_4_19 rfl (by decide +kernel)) (
  fm (z_iload_n (j := 3) (by decide +kernel) rfl) (
  fm (z_iald (by decide +kernel)) (
  fm (z_bipush (n := 96) (by decide +kernel) (by decide)) (
  fm (z_isub (by decide +kernel)) (
  fm (z_i2l (by decide +kernel)) (
  fm (z_ladd (by decide +kernel)) (
  fm (z_lstore_n (j := 1) (by decide +kernel) rfl (by decide)) (
  fm (z_iinc (n := 1) (by decide +kernel) (by decide) (by decide)) (
  fm (z_goto (off := (-40)) (by decide +kernel) (by decide)) (
  fm (z_aload_n (j := 0) (by decide +kernel) rfl) (
  fm (z_getf (idx := 218) awX5 rfl (by decide) wd_4_24 rfl (by decide +kernel)) (
  fm (z_if_ne (off := 17) (by decide +kernel) (by decide)) (
  fm (z_aload_n (j := 0) (by decide +kernel) rfl) (
  fm (z_aload_n (j := 0) (by decide +kernel) rfl) (
  fm (z_getf (idx := 206) awX5 rfl (by decide) wd_4_21 rfl (by decide +kernel)) (
  fm (z_inv (idx := 209) rfl (by decide +kernel) wd_5_129 wd_5_131 ws_60 wd_1_7 wd_5_132 (by decide +kernel) ⟨Nat.le_of_ble_eq_true rfl, Nat.le_of_ble_eq_true rfl⟩) (
  fm (z_invS (idx := 212) (by decide +kernel) wd_5_133 wd_5_134 wd_1_7 wd_5_135 (by decide +kernel) ⟨Nat.le_of_ble_eq_true rfl, Nat.le_of_ble_eq_true rfl⟩) (
  fm (z_if_ne (off := 7) (by decide +kernel) (by decide)) (
  fm (z_lconst (n := 0) (by decide +kernel) (by decide)) (
  fm (z_goto (off := 4) (by decide +kernel) (by decide)) (
  fm (z_lload_n (j := 1) (by decide +kernel) rfl) (
  fm (z_lret rfl (by decide +kernel)) (fn))))))))))))))))))))))))))))))))))))))))))
def kX5_worth : Cd := [(0, s_aload 0 1), (1, s_iload 1 2), (2, s_inv mX5_isStall 5 1 5), (5, s_if (fun x => x = 0) 22 8), (8, s_iload 2 9), (9, s_invS mX5_isPlace 1 12), (12, s_if (fun x => x = 0) 22 15), (15, s_iload 3 16), (16, s_invS mX5_isDays 1 19), (19, s_if (fun x => x = 0) 22 29), (22, s_aload 0 23), (23, s_pushi (-1000001) 25), (25, s_inv mX5_finds 5 1 28), (28, s_iret), (29, s_aload 0 30), (30, s_iload 3 31), (31, s_inv mX5_isTooLate 5 1 34), (34, s_if (fun x => x = 0) 44 37), (37, s_aload 0 38), (38, s_pushi (-1000005) 40), (40, s_inv mX5_finds 5 1 43), (43, s_iret), (44, s_aload 0 45), (45, s_inv mX5_saves 5 0 48), (48, s_aload 0 49), (49, s_iload 1 50), (50, s_iload 2 51), (51, s_iload 3 52), (52, s_inv mX5_worthOf 5 3 55), (55, s_iret)]
set_option maxRecDepth 20000 in
theorem zX5_worth : ∀ q ∈ kX5_worth, Snd RX5 cX5_worth 4 (some .int) (rmM mX5_worth) q.1 q.2 :=
  fm (z_aload_n (j := 0) (by decide +kernel) rfl) (
  fm (z_iload_n (j := 1) (by decide +kernel) rfl) (
  fm (z_inv (idx := 76) rfl (by decide +kernel) wd_4_115 wd_4_117 ws_32 wd_1_7 wd_4_118 (by decide +kernel) ⟨Nat.le_of_ble_eq_true rfl, Nat.le_of_ble_eq_true rfl⟩) (
  fm (z_if_eq (off := 17) (by decide +kernel) (by decide)) (
  fm (z_iload_n (j := 2) (by decide +kernel) rfl) (
  fm (z_invS (idx := 52) (by decide +kernel) wd_4_68 wd_4_69 wd_1_7 wd_4_70 (by decide +kernel) ⟨Nat.le_of_ble_eq_true rfl, Nat.le_of_ble_eq_true rfl⟩) (
  fm (z_if_eq (off := 10) (by decide +kernel) (by decide)) (
  fm (z_iload_n (j := 3) (by decide +kernel) rfl) (
  fm (z_invS (idx := 169) (by decide +kernel) wd_5_39 wd_5_40 wd_1_7 wd_5_41 (by decide +kernel) ⟨Nat.le_of_ble_eq_true rfl, Nat.le_of_ble_eq_true rfl⟩) (
  fm (z_if_ne (off := 10) (by decide +kernel) (by decide)) (
  fm (z_aload_n (j := 0) (by decide +kernel) rfl) (
  fm (z_ldc (i := 40) (by decide +kernel) wd_4_76) (
  fm (z_inv (idx := 58) rfl (by decide +kernel) wd_4_77 wd_4_79 ws_28 wd_1_7 wd_4_80 (by decide +kernel) ⟨Nat.le_of_ble_eq_true rfl, Nat.le_of_ble_eq_true rfl⟩) (
  fm (z_iret rfl (by decide +kernel)) (
  fm (z_aload_n (j := 0) (by decide +kernel) rfl) (
  fm (z_iload_n (j := 3) (by decide +kernel) rfl) (
  fm (z_inv (idx := 119) rfl (by decide +kernel) wd_4_158 wd_4_160 ws_37 wd_1_7 wd_4_161 (by decide +kernel) ⟨Nat.le_of_ble_eq_true rfl, Nat.le_of_ble_eq_true rfl⟩) (
  fm (z_if_eq (off := 10) (by decide +kernel) (by decide)) (
  fm (z_aload_n (j := 0) (by decide +kernel) rfl) (
  fm (z_ldc (i := 70) (by decide +kernel) wd_4_105) (
  fm (z_inv (idx := 58) rfl (by decide +kernel) wd_4_77 wd_4_79 ws_28 wd_1_7 wd_4_80 (by decide +kernel) ⟨Nat.le_of_ble_eq_true rfl, Nat.le_of_ble_eq_true rfl⟩) (
  fm (z_iret rfl (by decide +kernel)) (
  fm (z_aload_n (j := 0) (by decide +kernel) rfl) (
  fm (z_inv (idx := 130) rfl (by decide +kernel) wd_4_200 wd_4_202 ws_43 wd_1_7 wd_4_203 (by decide +kernel) ⟨Nat.le_of_ble_eq_true rfl, Nat.le_of_ble_eq_true rfl⟩) (
  fm (z_aload_n (j := 0) (by decide +kernel) rfl) (
  fm (z_iload_n (j := 1) (by decide +kernel) rfl) (
  fm (z_iload_n (j := 2) (by decide +kernel) rfl) (
  fm (z_iload_n (j := 3) (by decide +kernel) rfl) (
  fm (z_inv (idx := 184) rfl (by decide +kernel) wd_5_86 wd_5_88 ws_57 wd_1_7 wd_5_89 (by decide +kernel) ⟨Nat.le_of_ble_eq_true rfl, Nat.le_of_ble_eq_true rfl⟩) (
  fm (z_iret rfl (by decide +kernel)) (fn))))))))))))))))))))))))))))))
def kX5_worthOf : Cd := [(0, s_aload 0 1), (1, s_iload 1 2), (2, s_iload 3 3), (3, s_inv mX5_coinOf 5 2 6), (6, s_istore 4 8), (8, s_aload 0 9), (9, s_iload 2 10), (10, s_inv mX5_stallAt 5 1 13), (13, s_istore 5 15), (15, s_iload 5 17), (17, s_if (fun x => x < 0) 30 20), (20, s_aload 0 21), (21, s_iload 1 22), (22, s_iload 5 24), (24, s_inv mX5_swaps 5 2 27), (27, s_goto 41), (30, s_aload 0 31), (31, s_getf 5 0 34), (34, s_iload 1 35), (35, s_pushi 1 36), (36, s_invS mX5_at 2 39), (39, s_iload 2 40), (40, s_iast 41), (41, s_aload 0 42), (42, s_iload 1 43), (43, s_iload 3 44), (44, s_inv mX5_coinOf 5 2 47), (47, s_iload 4 49), (49, s_bin (fun x y => x - y) 50), (50, s_iret)]
set_option maxRecDepth 20000 in
theorem zX5_worthOf : ∀ q ∈ kX5_worthOf, Snd RX5 cX5_worthOf 6 (some .int) (rmM mX5_worthOf) q.1 q.2 :=
  fm (z_aload_n (j := 0) (by decide +kernel) rfl) (
  fm (z_iload_n (j := 1) (by decide +kernel) rfl) (
  fm (z_iload_n (j := 3) (by decide +kernel) rfl) (
  fm (z_inv (idx := 172) rfl (by decide +kernel) wd_5_42 wd_5_44 ws_53 wd_1_7 wd_5_45 (by decide +kernel) ⟨Nat.le_of_ble_eq_true rfl, Nat.le_of_ble_eq_true rfl⟩) (
  fm (z_istore (i := 4) (by decide +kernel) (by decide)) (
  fm (z_aload_n (j := 0) (by decide +kernel) rfl) (
  fm (z_iload_n (j := 2) (by decide +kernel) rfl) (
  fm (z_inv (idx := 67) rfl (by decide +kernel) wd_4_94 wd_4_96 ws_29 wd_1_7 wd_4_97 (by decide +kernel) ⟨Nat.le_of_ble_eq_true rfl, Nat.le_of_ble_eq_true rfl⟩) (
  fm (z_istore (i := 5) (by decide +kernel) (by decide)) (
  fm (z_iload (i := 5) (by decide +kernel)) (
  fm (z_if_lt (off := 13) (by decide +kernel) (by decide)) (
  fm (z_aload_n (j := 0) (by decide +kernel) rfl) (
  fm (z_iload_n (j := 1) (by decide +kernel) rfl) (
  fm (z_iload (i := 5) (by decide +kernel)) (
  fm (z_inv (idx := 87) rfl (by decide +kernel) wd_4_136 wd_4_138 ws_35 wd_1_7 wd_4_139 (by decide +kernel) ⟨Nat.le_of_ble_eq_true rfl, Nat.le_of_ble_eq_true rfl⟩) (
  fm (z_goto (off := 14) (by decide +kernel) (by decide)) (
  fm (z_aload_n (j := 0) (by decide +kernel) rfl) (
  fm (z_getf (idx := 7) awX5 rfl (by decide) wd_4_12 rfl (by decide +kernel)) (
  fm (z_iload_n (j := 1) (by decide +kernel) rfl) (
  fm (z_iconst (n := 1) (by decide +kernel) (by decide)) (
  fm (z_invS (idx := 48) (by decide +kernel) wd_4_102 wd_4_103 wd_1_7 wd_4_104 (by decide +kernel) ⟨Nat.le_of_ble_eq_true rfl, Nat.le_of_ble_eq_true rfl⟩) (
  fm (z_iload_n (j := 2) (by decide +kernel) rfl) (
  fm (z_iast (by decide +kernel)) (
  fm (z_aload_n (j := 0) (by decide +kernel) rfl) (
  fm (z_iload_n (j := 1) (by decide +kernel) rfl) (
  fm (z_iload_n (j := 3) (by decide +kernel) rfl) (
  fm (z_inv (idx := 172) rfl (by decide +kernel) wd_5_42 wd_5_44 ws_53 wd_1_7 wd_5_45 (by decide +kernel) ⟨Nat.le_of_ble_eq_true rfl, Nat.le_of_ble_eq_true rfl⟩) (
  fm (z_iload (i := 4) (by decide +kernel)) (
  fm (z_isub (by decide +kernel)) (
  fm (z_iret rfl (by decide +kernel)) (fn))))))))))))))))))))))))))))))
def kX5_write : Cd := [(0, s_aload 0 1), (1, s_iload 1 2), (2, s_inv mX5_wrong 5 1 5), (5, s_istore 4 7), (7, s_iload 4 9), (9, s_if (fun x => x = 0) 19 12), (12, s_aload 0 13), (13, s_iload 4 15), (15, s_inv mX5_finds 5 1 18), (18, s_iret), (19, s_iload 2 20), (20, s_i2l 21), (21, s_pushl 0 22), (22, s_aload 0 23), (23, s_getf 5 14 26), (26, s_iload 1 27), (27, s_iald 28), (28, s_pushi 1 29), (29, s_bin (fun x y => x - y) 30), (30, s_i2l 31), (31, s_invS mX5_in 3 34), (34, s_if (fun x => x = 0) 37 44), (37, s_aload 0 38), (38, s_pushi (-1000001) 40), (40, s_inv mX5_finds 5 1 43), (43, s_iret), (44, s_aload 0 45), (45, s_getf 5 15 48), (48, s_pushi 40 50), (50, s_iload 1 51), (51, s_bin (fun x y => x * y) 52), (52, s_iload 2 53), (53, s_bin (fun x y => x + y) 54), (54, s_aload 0 55), (55, s_getf 5 13 58), (58, s_iload 1 59), (59, s_iald 60), (60, s_iload 3 61), (61, s_invS mX5_narrowed 2 64), (64, s_iast 65), (65, s_pushi 1 66), (66, s_iret)]
set_option maxRecDepth 20000 in
theorem zX5_write : ∀ q ∈ kX5_write, Snd RX5 cX5_write 5 (some .int) (rmM mX5_write) q.1 q.2 :=
  fm (z_aload_n (j := 0) (by decide +kernel) rfl) (
  fm (z_iload_n (j := 1) (by decide +kernel) rfl) (
  fm (z_inv (idx := 301) rfl (by decide +kernel) wd_5_218 wd_5_220 ws_70 wd_1_7 wd_5_221 (by decide +kernel) ⟨Nat.le_of_ble_eq_true rfl, Nat.le_of_ble_eq_true rfl⟩) (
  fm (z_istore (i := 4) (by decide +kernel) (by decide)) (
  fm (z_iload (i := 4) (by decide +kernel)) (
  fm (z_if_eq (off := 10) (by decide +kernel) (by decide)) (
  fm (z_aload_n (j := 0) (by decide +kernel) rfl) (
  fm (z_iload (i := 4) (by decide +kernel)) (
  fm (z_inv (idx := 58) rfl (by decide +kernel) wd_4_77 wd_4_79 ws_28 wd_1_7 wd_4_80 (by decide +kernel) ⟨Nat.le_of_ble_eq_true rfl, Nat.le_of_ble_eq_true rfl⟩) (
  fm (z_iret rfl (by decide +kernel)) (
  fm (z_iload_n (j := 2) (by decide +kernel) rfl) (
  fm (z_i2l (by decide +kernel)) (
  fm (z_lconst (n := 0) (by decide +kernel) (by decide)) (
  fm (z_aload_n (j := 0) (by decide +kernel) rfl) (
  fm (z_getf (idx := 31) awX5 rfl (by decide) wd_4_26 rfl (by decide +kernel)) (
  fm (z_iload_n (j := 1) (by decide +kernel) rfl) (
  fm (z_iald (by decide +kernel)) (
  fm (z_iconst (n := 1) (by decide +kernel) (by decide)) (
  fm (z_isub (by decide +kernel)) (
  fm (z_i2l (by decide +kernel)) (
  fm (z_invS (idx := 43) (by decide +kernel) wd_4_72 wd_4_73 wd_1_7 wd_4_74 (by decide +kernel) ⟨Nat.le_of_ble_eq_true rfl, Nat.le_of_ble_eq_true rfl⟩) (
  fm (z_if_ne (off := 10) (by decide +kernel) (by decide)) (
  fm (z_aload_n (j := 0) (by decide +kernel) rfl) (
  fm (z_ldc (i := 40) (by decide +kernel) wd_4_76) (
  fm (z_inv (idx := 58) rfl (by decide +kernel) wd_4_77 wd_4_79 ws_28 wd_1_7 wd_4_80 (by decide +kernel) ⟨Nat.le_of_ble_eq_true rfl, Nat.le_of_ble_eq_true rfl⟩) (
  fm (z_iret rfl (by decide +kernel)) (
  fm (z_aload_n (j := 0) (by decide +kernel) rfl) (
  fm (z_getf (idx := 34) awX5 rfl (by decide) wd_4_27 rfl (by decide +kernel)) (
  fm (z_bipush (n := 40) (by decide +kernel) (by decide)) (
  fm (z_iload_n (j := 1) (by decide +kernel) rfl) (
  fm (z_imul (by decide +kernel)) (
  fm (z_iload_n (j := 2) (by decide +kernel) rfl) (
  fm (z_iadd (by decide +kernel)) (
  fm (z_aload_n (j := 0) (by decide +kernel) rfl) (
  fm (z_getf (idx := 28) awX5 rfl (by decide) wd_4_25 rfl (by decide +kernel)) (
  fm (z_iload_n (j := 1) (by decide +kernel) rfl) (
  fm (z_iald (by decide +kernel)) (
  fm (z_iload_n (j := 3) (by decide +kernel) rfl) (
  fm (z_invS (idx := 304) (by decide +kernel) wd_5_222 wd_5_223 wd_1_7 wd_5_224 (by decide +kernel) ⟨Nat.le_of_ble_eq_true rfl, Nat.le_of_ble_eq_true rfl⟩) (
  fm (z_iast (by decide +kernel)) (
  fm (z_iconst (n := 1) (by decide +kernel) (by decide)) (
  fm (z_iret rfl (by decide +kernel)) (fn))))))))))))))))))))))))))))))))))))))))))
def kX5_wrong : Cd := [(0, s_iload 1 1), (1, s_invS mX5_isOne 1 4), (4, s_if (fun x => x = 0) 7 12), (7, s_pushi (-1000001) 9), (9, s_goto 28), (12, s_aload 0 13), (13, s_getf 5 13 16), (16, s_iload 1 17), (17, s_iald 18), (18, s_if (fun x => x = 0) 21 27), (21, s_pushi (-1000006) 24), (24, s_goto 28), (27, s_pushi 0 28), (28, s_iret)]
set_option maxRecDepth 20000 in
theorem zX5_wrong : ∀ q ∈ kX5_wrong, Snd RX5 cX5_wrong 2 (some .int) (rmM mX5_wrong) q.1 q.2 :=
  fm (z_iload_n (j := 1) (by decide +kernel) rfl) (
  fm (z_invS (idx := 298) (by decide +kernel) wd_5_210 wd_5_211 wd_1_7 wd_5_212 (by decide +kernel) ⟨Nat.le_of_ble_eq_true rfl, Nat.le_of_ble_eq_true rfl⟩) (
  fm (z_if_ne (off := 8) (by decide +kernel) (by decide)) (
  fm (z_ldc (i := 40) (by decide +kernel) wd_4_76) (
  fm (z_goto (off := 19) (by decide +kernel) (by decide)) (
  fm (z_aload_n (j := 0) (by decide +kernel) rfl) (
  fm (z_getf (idx := 28) awX5 rfl (by decide) wd_4_25 rfl (by decide +kernel)) (
  fm (z_iload_n (j := 1) (by decide +kernel) rfl) (
  fm (z_iald (by decide +kernel)) (
  fm (z_if_ne (off := 9) (by decide +kernel) (by decide)) (
  fm (z_ldcw (i := 294) (by decide +kernel) wd_5_204) (
  fm (z_goto (off := 4) (by decide +kernel) (by decide)) (
  fm (z_iconst (n := 0) (by decide +kernel) (by decide)) (
  fm (z_iret rfl (by decide +kernel)) (fn))))))))))))))
