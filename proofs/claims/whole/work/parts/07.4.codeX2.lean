/-! CODE of X2, by program -/
def kX2_addStall : Cd := [(0, s_aload 0 1), (1, s_getf 2 9 4), (4, s_istore 3 5), (5, s_aload 0 6), (6, s_getf 2 2 9), (9, s_iload 3 10), (10, s_iload 1 11), (11, s_iast 12), (12, s_aload 0 13), (13, s_getf 2 3 16), (16, s_iload 3 17), (17, s_iload 2 18), (18, s_iast 19), (19, s_aload 0 20), (20, s_getf 2 4 23), (23, s_iload 3 24), (24, s_pushi 20 26), (26, s_iast 27), (27, s_aload 0 28), (28, s_getf 2 5 31), (31, s_iload 3 32), (32, s_pushi 0 33), (33, s_iast 34), (34, s_aload 0 35), (35, s_getf 2 6 38), (38, s_iload 3 39), (39, s_pushi 0 40), (40, s_iast 41), (41, s_aload 0 42), (42, s_dup 43), (43, s_getf 2 9 46), (46, s_pushi 1 47), (47, s_bin (fun x y => x + y) 48), (48, s_putf .int 2 9 51), (51, s_iload 3 52), (52, s_iret)]
set_option maxRecDepth 20000 in
theorem zX2_addStall : ∀ q ∈ kX2_addStall, Snd RX2 cX2_addStall 4 (some .int) (rmM mX2_addStall) q.1 q.2 :=
  fm (z_aload_n (j := 0) (by decide +kernel) rfl) (
  fm (z_getf (idx := 55) awX2 rfl (by decide) wd_1_53 rfl (by decide +kernel)) (
  fm (z_istore_n (j := 3) (by decide +kernel) rfl (by decide)) (
  fm (z_aload_n (j := 0) (by decide +kernel) rfl) (
  fm (z_getf (idx := 18) awX2 rfl (by decide) wd_1_37 rfl (by decide +kernel)) (
  fm (z_iload_n (j := 3) (by decide +kernel) rfl) (
  fm (z_iload_n (j := 1) (by decide +kernel) rfl) (
  fm (z_iast (by decide +kernel)) (
  fm (z_aload_n (j := 0) (by decide +kernel) rfl) (
  fm (z_getf (idx := 21) awX2 rfl (by decide) wd_1_39 rfl (by decide +kernel)) (
  fm (z_iload_n (j := 3) (by decide +kernel) rfl) (
  fm (z_iload_n (j := 2) (by decide +kernel) rfl) (
  fm (z_iast (by decide +kernel)) (
  fm (z_aload_n (j := 0) (by decide +kernel) rfl) (
  fm (z_getf (idx := 24) awX2 rfl (by decide) wd_1_41 rfl (by decide +kernel)) (
  fm (z_iload_n (j := 3) (by decide +kernel) rfl) (
  fm (z_bipush (n := 20) (by decide +kernel) (by decide)) (
  fm (z_iast (by decide +kernel)) (
  fm (z_aload_n (j := 0) (by decide +kernel) rfl) (
  fm (z_getf (idx := 27) awX2 rfl (by decide) wd_1_44 rfl (by decide +kernel)) (
  fm (z_iload_n (j := 3) (by decide +kernel) rfl) (
  fm (z_iconst (n := 0) (by decide +kernel) (by decide)) (
  fm (z_iast (by decide +kernel)) (
  fm (z_aload_n (j := 0) (by decide +kernel) rfl) (
  fm (z_getf (idx := 30) awX2 rfl (by decide) wd_1_46 rfl (by decide +kernel)) (
  fm (z_iload_n (j := 3) (by decide +kernel) rfl) (
  fm (z_iconst (n := 0) (by decide +kernel) (by decide)) (
  fm (z_iast (by decide +kernel)) (
  fm (z_aload_n (j := 0) (by decide +kernel) rfl) (
  fm (z_dup (by decide +kernel)) (
  fm (z_getf (idx := 55) awX2 rfl (by decide) wd_1_53 rfl (by decide +kernel)) (
  fm (z_iconst (n := 1) (by decide +kernel) (by decide)) (
  fm (z_iadd (by decide +kernel)) (
  fm (z_putf (idx := 55) tyX2 tyX2_ok nmX2 awX2 rfl (by decide) wd_1_53 rfl rfl (by decide +kernel) (by decide +kernel)) (
  fm (z_iload_n (j := 3) (by decide +kernel) rfl) (
  fm (z_iret rfl (by decide +kernel)) (fn))))))))))))))))))))))))))))))))))))
def kX2_allCoin : Cd := [(0, s_pushi 0 1), (1, s_istore 1 2), (2, s_pushi 0 3), (3, s_istore 2 4), (4, s_iload 2 5), (5, s_aload 0 6), (6, s_getf 2 9 9), (9, s_icmp (fun x y => y ≤ x) 27 12), (12, s_iload 1 13), (13, s_aload 0 14), (14, s_getf 2 5 17), (17, s_iload 2 18), (18, s_iald 19), (19, s_bin (fun x y => x + y) 20), (20, s_istore 1 21), (21, s_iinc 2 1 24), (24, s_goto 4), (27, s_iload 1 28), (28, s_iret)]
set_option maxRecDepth 20000 in
theorem zX2_allCoin : ∀ q ∈ kX2_allCoin, Snd RX2 cX2_allCoin 3 (some .int) (rmM mX2_allCoin) q.1 q.2 :=
  fm (z_iconst (n := 0) (by decide +kernel) (by decide)) (
  fm (z_istore_n (j := 1) (by decide +kernel) rfl (by decide)) (
  fm (z_iconst (n := 0) (by decide +kernel) (by decide)) (
  fm (z_istore_n (j := 2) (by decide +kernel) rfl (by decide)) (
  fm (z_iload_n (j := 2) (by decide +kernel) rfl) (
  fm (z_aload_n (j := 0) (by decide +kernel) rfl) (
  fm (z_getf (idx := 55) awX2 rfl (by decide) wd_1_53 rfl (by decide +kernel)) (
  fm (z_icmp_ge (off := 18) (by decide +kernel) (by decide)) (
  fm (z_iload_n (j := 1) (by decide +kernel) rfl) (
  fm (z_aload_n (j := 0) (by decide +kernel) rfl) (
  fm (z_getf (idx := 27) awX2 rfl (by decide) wd_1_44 rfl (by decide +kernel)) (
  fm (z_iload_n (j := 2) (by decide +kernel) rfl) (
  fm (z_iald (by decide +kernel)) (
  fm (z_iadd (by decide +kernel)) (
  fm (z_istore_n (j := 1) (by decide +kernel) rfl (by decide)) (
  fm (z_iinc (n := 1) (by decide +kernel) (by decide) (by decide)) (
  fm (z_goto (off := (-20)) (by decide +kernel) (by decide)) (
  fm (z_iload_n (j := 1) (by decide +kernel) rfl) (
  fm (z_iret rfl (by decide +kernel)) (fn)))))))))))))))))))
def kX2_allGoods : Cd := [(0, s_pushi 0 1), (1, s_istore 1 2), (2, s_pushi 0 3), (3, s_istore 2 4), (4, s_iload 2 5), (5, s_aload 0 6), (6, s_getf 2 9 9), (9, s_icmp (fun x y => y ≤ x) 27 12), (12, s_iload 1 13), (13, s_aload 0 14), (14, s_getf 2 4 17), (17, s_iload 2 18), (18, s_iald 19), (19, s_bin (fun x y => x + y) 20), (20, s_istore 1 21), (21, s_iinc 2 1 24), (24, s_goto 4), (27, s_iload 1 28), (28, s_iret)]
set_option maxRecDepth 20000 in
theorem zX2_allGoods : ∀ q ∈ kX2_allGoods, Snd RX2 cX2_allGoods 3 (some .int) (rmM mX2_allGoods) q.1 q.2 :=
  fm (z_iconst (n := 0) (by decide +kernel) (by decide)) (
  fm (z_istore_n (j := 1) (by decide +kernel) rfl (by decide)) (
  fm (z_iconst (n := 0) (by decide +kernel) (by decide)) (
  fm (z_istore_n (j := 2) (by decide +kernel) rfl (by decide)) (
  fm (z_iload_n (j := 2) (by decide +kernel) rfl) (
  fm (z_aload_n (j := 0) (by decide +kernel) rfl) (
  fm (z_getf (idx := 55) awX2 rfl (by decide) wd_1_53 rfl (by decide +kernel)) (
  fm (z_icmp_ge (off := 18) (by decide +kernel) (by decide)) (
  fm (z_iload_n (j := 1) (by decide +kernel) rfl) (
  fm (z_aload_n (j := 0) (by decide +kernel) rfl) (
  fm (z_getf (idx := 24) awX2 rfl (by decide) wd_1_41 rfl (by decide +kernel)) (
  fm (z_iload_n (j := 2) (by decide +kernel) rfl) (
  fm (z_iald (by decide +kernel)) (
  fm (z_iadd (by decide +kernel)) (
  fm (z_istore_n (j := 1) (by decide +kernel) rfl (by decide)) (
  fm (z_iinc (n := 1) (by decide +kernel) (by decide) (by decide)) (
  fm (z_goto (off := (-20)) (by decide +kernel) (by decide)) (
  fm (z_iload_n (j := 1) (by decide +kernel) rfl) (
  fm (z_iret rfl (by decide +kernel)) (fn)))))))))))))))))))
def kX2_allVisits : Cd := [(0, s_pushi 0 1), (1, s_istore 1 2), (2, s_pushi 0 3), (3, s_istore 2 4), (4, s_iload 2 5), (5, s_pushi 12 7), (7, s_icmp (fun x y => y ≤ x) 25 10), (10, s_iload 1 11), (11, s_aload 0 12), (12, s_getf 2 0 15), (15, s_iload 2 16), (16, s_iald 17), (17, s_bin (fun x y => x + y) 18), (18, s_istore 1 19), (19, s_iinc 2 1 22), (22, s_goto 4), (25, s_iload 1 26), (26, s_iret)]
set_option maxRecDepth 20000 in
theorem zX2_allVisits : ∀ q ∈ kX2_allVisits, Snd RX2 cX2_allVisits 3 (some .int) (rmM mX2_allVisits) q.1 q.2 :=
  fm (z_iconst (n := 0) (by decide +kernel) (by decide)) (
  fm (z_istore_n (j := 1) (by decide +kernel) rfl (by decide)) (
  fm (z_iconst (n := 0) (by decide +kernel) (by decide)) (
  fm (z_istore_n (j := 2) (by decide +kernel) rfl (by decide)) (
  fm (z_iload_n (j := 2) (by decide +kernel) rfl) (
  fm (z_bipush (n := 12) (by decide +kernel) (by decide)) (
  fm (z_icmp_ge (off := 18) (by decide +kernel) (by decide)) (
  fm (z_iload_n (j := 1) (by decide +kernel) rfl) (
  fm (z_aload_n (j := 0) (by decide +kernel) rfl) (
  fm (z_getf (idx := 9) awX2 rfl (by decide) wd_1_31 rfl (by decide +kernel)) (
  fm (z_iload_n (j := 2) (by decide +kernel) rfl) (
  fm (z_iald (by decide +kernel)) (
  fm (z_iadd (by decide +kernel)) (
  fm (z_istore_n (j := 1) (by decide +kernel) rfl (by decide)) (
  fm (z_iinc (n := 1) (by decide +kernel) (by decide) (by decide)) (
  fm (z_goto (off := (-18)) (by decide +kernel) (by decide)) (
  fm (z_iload_n (j := 1) (by decide +kernel) rfl) (
  fm (z_iret rfl (by decide +kernel)) (fn))))))))))))))))))
def kX2_areBeside : Cd := [(0, s_aload 0 1), (1, s_getf 2 3 4), (4, s_iload 1 5), (5, s_iald 6), (6, s_aload 0 7), (7, s_getf 2 3 10), (10, s_iload 2 11), (11, s_iald 12), (12, s_bin (fun x y => x - y) 13), (13, s_pushi 12 15), (15, s_invS mJ9_floorMod_7cf53 2 18), (18, s_istore 3 19), (19, s_iload 3 20), (20, s_pushi 1 21), (21, s_icmp (fun x y => x = y) 30 24), (24, s_iload 3 25), (25, s_pushi 11 27), (27, s_icmp (fun x y => x = y) 30 34), (30, s_pushi 1 31), (31, s_goto 35), (34, s_pushi 0 35), (35, s_zret)]
set_option maxRecDepth 20000 in
theorem zX2_areBeside : ∀ q ∈ kX2_areBeside, Snd RX2 cX2_areBeside 4 (some .boolean) (rmM mX2_areBeside) q.1 q.2 :=
  fm (z_aload_n (j := 0) (by decide +kernel) rfl) (
  fm (z_getf (idx := 21) awX2 rfl (by decide) wd_1_39 rfl (by decide +kernel)) (
  fm (z_iload_n (j := 1) (by decide +kernel) rfl) (
  fm (z_iald (by decide +kernel)) (
  fm (z_aload_n (j := 0) (by decide +kernel) rfl) (
  fm (z_getf (idx := 21) awX2 rfl (by decide) wd_1_39 rfl (by decide +kernel)) (
  fm (z_iload_n (j := 2) (by decide +kernel) rfl) (
  fm (z_iald (by decide +kernel)) (
  fm (z_isub (by decide +kernel)) (
  fm (z_bipush (n := 12) (by decide +kernel) (by decide)) (
  fm (z_invS (idx := 109) (by decide +kernel) wd_2_186 wd_2_187 wd_1_8 wd_2_188 (by decide +kernel) ⟨Nat.le_of_ble_eq_true rfl, Nat.le_of_ble_eq_true rfl⟩) (
  fm (z_istore_n (j := 3) (by decide +kernel) rfl (by decide)) (
  fm (z_iload_n (j := 3) (by decide +kernel) rfl) (
  fm (z_iconst (n := 1) (by decide +kernel) (by decide)) (
  fm (z_icmp_eq (off := 9) (by decide +kernel) (by decide)) (
  fm (z_iload_n (j := 3) (by decide +kernel) rfl) (
  fm (z_bipush (n := 11) (by decide +kernel) (by decide)) (
  fm (z_icmp_ne (off := 7) (by decide +kernel) (by decide)) (
  fm (z_iconst (n := 1) (by decide +kernel) (by decide)) (
  fm (z_goto (off := 4) (by decide +kernel) (by decide)) (
  fm (z_iconst (n := 0) (by decide +kernel) (by decide)) (
  fm (z_zret rfl (by decide +kernel)) (fn))))))))))))))))))))))
def kX2_become : Cd := [(0, s_aload 1 1), (1, s_getf 2 0 4), (4, s_pushi 0 5), (5, s_aload 0 6), (6, s_getf 2 0 9), (9, s_pushi 0 10), (10, s_pushi 12 12), (12, s_copy 15), (15, s_aload 1 16), (16, s_getf 2 1 19), (19, s_pushi 0 20), (20, s_aload 0 21), (21, s_getf 2 1 24), (24, s_pushi 0 25), (25, s_pushi 12 27), (27, s_copy 30), (30, s_aload 1 31), (31, s_getf 2 2 34), (34, s_pushi 0 35), (35, s_aload 0 36), (36, s_getf 2 2 39), (39, s_pushi 0 40), (40, s_pushi 8 42), (42, s_copy 45), (45, s_aload 1 46), (46, s_getf 2 3 49), (49, s_pushi 0 50), (50, s_aload 0 51), (51, s_getf 2 3 54), (54, s_pushi 0 55), (55, s_pushi 8 57), (57, s_copy 60), (60, s_aload 1 61), (61, s_getf 2 4 64), (64, s_pushi 0 65), (65, s_aload 0 66), (66, s_getf 2 4 69), (69, s_pushi 0 70), (70, s_pushi 8 72), (72, s_copy 75), (75, s_aload 1 76), (76, s_getf 2 5 79), (79, s_pushi 0 80), (80, s_aload 0 81), (81, s_getf 2 5 84), (84, s_pushi 0 85), (85, s_pushi 8 87), (87, s_copy 90), (90, s_aload 1 91), (91, s_getf 2 6 94), (94, s_pushi 0 95), (95, s_aload 0 96), (96, s_getf 2 6 99), (99, s_pushi 0 100), (100, s_pushi 8 102), (102, s_copy 105), (105, s_aload 1 106), (106, s_getf 2 7 109), (109, s_pushi 0 110), (110, s_aload 0 111), (111, s_getf 2 7 114), (114, s_pushi 0 115), (115, s_pushi 10 117), (117, s_copy 120), (120, s_aload 0 121), (121, s_aload 1 122), (122, s_getf 2 8 125), (125, s_putf .int 2 8 128), (128, s_aload 0 129), (129, s_aload 1 130), (130, s_getf 2 9 133), (133, s_putf .int 2 9 136), (136, s_aload 0 137), (137, s_aload 1 138), (138, s_getf 2 10 141), (141, s_putf .int 2 10 144), (144, s_aload 0 145), (145, s_aload 1 146), (146, s_getf 2 11 149), (149, s_putf .int 2 11 152), (152, s_vret)]
set_option maxRecDepth 20000 in
theorem zX2_become : ∀ q ∈ kX2_become, Snd RX2 cX2_become 2 none (rmM mX2_become) q.1 q.2 :=
  fm (z_aload_n (j := 1) (by decide +kernel) rfl) (
  fm (z_getf (idx := 9) awX2 rfl (by decide) wd_1_31 rfl (by decide +kernel)) (
  fm (z_iconst (n := 0) (by decide +kernel) (by decide)) (
  fm (z_aload_n (j := 0) (by decide +kernel) rfl) (
  fm (z_getf (idx := 9) awX2 rfl (by decide) wd_1_31 rfl (by decide +kernel)) (
  fm (z_iconst (n := 0) (by decide +kernel) (by decide)) (
  fm (z_bipush (n := 12) (by decide +kernel) (by decide)) (
  fm (z_copy (idx := 46) (by decide +kernel) wd_2_68 wd_2_70 wd_2_69 wd_1_9 (by decide)) (
  fm (z_aload_n (j := 1) (by decide +kernel) rfl) (
  fm (z_getf (idx := 15) awX2 rfl (by decide) wd_1_34 rfl (by decide +kernel)) (
  fm (z_iconst (n := 0) (by decide +kernel) (by decide)) (
  fm (z_aload_n (j := 0) (by decide +kernel) rfl) (
  fm (z_getf (idx := 15) awX2 rfl (by decide) wd_1_34 rfl (by decide +kernel)) (
  fm (z_iconst (n := 0) (by decide +kernel) (by decide)) (
  fm (z_bipush (n := 12) (by decide +kernel) (by decide)) (
  fm (z_copy (idx := 46) (by decide +kernel) wd_2_68 wd_2_70 wd_2_69 wd_1_9 (by decide)) (
  fm (z_aload_n (j := 1) (by decide +kernel) rfl) (
  fm (z_getf (idx := 18) awX2 rfl (by decide) wd_1_37 rfl (by decide +kernel)) (
  fm (z_iconst (n := 0) (by decide +kernel) (by decide)) (
  fm (z_aload_n (j := 0) (by decide +kernel) rfl) (
  fm (z_getf (idx := 18) awX2 rfl (by decide) wd_1_37 rfl (by decide +kernel)) (
  fm (z_iconst (n := 0) (by decide +kernel) (by decide)) (
  fm (z_bipush (n := 8) (by decide +kernel) (by decide)) (
  fm (z_copy (idx := 46) (by decide +kernel) wd_2_68 wd_2_70 wd_2_69 wd_1_9 (by decide)) (
  fm (z_aload_n (j := 1) (by decide +kernel) rfl) (
  fm (z_getf (idx := 21) awX2 rfl (by decide) wd_1_39 rfl (by decide +kernel)) (
  fm (z_iconst (n := 0) (by decide +kernel) (by decide)) (
  fm (z_aload_n (j := 0) (by decide +kernel) rfl) (
  fm (z_getf (idx := 21) awX2 rfl (by decide) wd_1_39 rfl (by decide +kernel)) (
  fm (z_iconst (n := 0) (by decide +kernel) (by decide)) (
  fm (z_bipush (n := 8) (by decide +kernel) (by decide)) (
  fm (z_copy (idx := 46) (by decide +kernel) wd_2_68 wd_2_70 wd_2_69 wd_1_9 (by decide)) (
  fm (z_aload_n (j := 1) (by decide +kernel) rfl) (
  fm (z_getf (idx := 24) awX2 rfl (by decide) wd_1_41 rfl (by decide +kernel)) (
  fm (z_iconst (n := 0) (by decide +kernel) (by decide)) (
  fm (z_aload_n (j := 0) (by decide +kernel) rfl) (
  fm (z_getf (idx := 24) awX2 rfl (by decide) wd_1_41 rfl (by decide +kernel)) (
  fm (z_iconst (n := 0) (by decide +kernel) (by decide)) (
  fm (z_bipush (n := 8) (by decide +kernel) (by decide)) (
  fm (z_copy (idx := 46) (by decide +kernel) wd_2_68 wd_2_70 wd_2_69 wd_1_9 (by decide)) (
  fm (z_aload_n (j := 1) (by decide +kernel) rfl) (
  fm (z_getf (idx := 27) awX2 rfl (by decide) wd_1_44 rfl (by decide +kernel)) (
  fm (z_iconst (n := 0) (by decide +kernel) (by decide)) (
  fm (z_aload_n (j := 0) (by decide +kernel) rfl) (
  fm (z_getf (idx := 27) awX2 rfl (by decide) wd_1_44 rfl (by decide +kernel)) (
  fm (z_iconst (n := 0) (by decide +kernel) (by decide)) (
  fm (z_bipush (n := 8) (by decide +kernel) (by decide)) (
  fm (z_copy (idx := 46) (by decide +kernel) wd_2_68 wd_2_70 wd_2_69 wd_1_9 (by decide)) (
  fm (z_aload_n (j := 1) (by decide +kernel) rfl) (
  fm (z_getf (idx := 30) awX2 rfl (by decide) wd_1_46 rfl (by decide +kernel)) (
  fm (z_iconst (n := 0) (by decide +kernel) (by decide)) (
  fm (z_aload_n (j := 0) (by decide +kernel) rfl) (
  fm (z_getf (idx := 30) awX2 rfl (by decide) wd_1_46 rfl (by decide +kernel)) (
  fm (z_iconst (n := 0) (by decide +kernel) (by decide)) (
  fm (z_bipush (n := 8) (by decide +kernel) (by decide)) (
  fm (z_copy (idx := 46) (by decide +kernel) wd_2_68 wd_2_70 wd_2_69 wd_1_9 (by decide)) (
  fm (z_aload_n (j := 1) (by decide +kernel) rfl) (
  fm (z_getf (idx := 33) awX2 rfl (by decide) wd_1_48 rfl (by decide +kernel)) (
  fm (z_iconst (n := 0) (by decide +kernel) (by decide)) (
  fm (z_aload_n (j := 0) (by decide +kernel) rfl) (
  fm (z_getf (idx := 33) awX2 rfl (by decide) wd_1_48 rfl (by decide +kernel)) (
  fm (z_iconst (n := 0) (by decide +kernel) (by decide)) (
  fm (z_bipush (n := 10) (by decide +kernel) (by decide)) (
  fm (z_copy (idx := 46) (by decide +kernel) wd_2_68 wd_2_70 wd_2_69 wd_1_9 (by decide)) (
  fm (z_aload_n (j := 0) (by decide +kernel) rfl) (
  fm (z_aload_n (j := 1) (by decide +kernel) rfl) (
  fm (z_getf (idx := 52) awX2 rfl (by decide) wd_1_50 rfl (by decide +kernel)) (
  fm (z_putf (idx := 52) tyX2 tyX2_ok nmX2 awX2 rfl (by decide) wd_1_50 rfl rfl (by decide +kernel) (by decide +kernel)) (
  fm (z_aload_n (j := 0) (by decide +kernel) rfl) (
  fm (z_aload_n (j := 1) (by decide +kernel) rfl) (
  fm (z_getf (idx := 55) awX2 rfl (by decide) wd_1_53 rfl (by decide +kernel)) (
  fm (z_putf (idx := 55) tyX2 tyX2_ok nmX2 awX2 rfl (by decide) wd_1_53 rfl rfl (by decide +kernel) (by decide +kernel)) (
  fm (z_aload_n (j := 0) (by decide +kernel) rfl) (
  fm (z_aload_n (j := 1) (by decide +kernel) rfl) (
  fm (z_getf (idx := 58) awX2 rfl (by decide) wd_1_56 rfl (by decide +kernel)) (
  fm (z_putf (idx := 58) tyX2 tyX2_ok nmX2 awX2 rfl (by decide) wd_1_56 rfl rfl (by decide +kernel) (by decide +kernel)) (
  fm (z_aload_n (j := 0) (by decide +kernel) rfl) (
  fm (z_aload_n (j := 1) (by decide +kernel) rfl) (
  fm (z_getf (idx := 36) awX2 rfl (by decide) wd_1_58 rfl (by decide +kernel)) (
  fm (z_putf (idx := 36) tyX2 tyX2_ok nmX2 awX2 rfl (by decide) wd_1_58 rfl rfl (by decide +kernel) (by decide +kernel)) (
  fm (z_vret rfl (by decide +kernel)) (fn)))))))))))))))))))))))))))))))))))))))))))))))))))))))))))))))))))))))))))))))))
def kX2_besideSet : Cd := [(0, s_pushi 0 1), (1, s_istore 2 2), (2, s_pushi 0 3), (3, s_istore 3 4), (4, s_iload 3 5), (5, s_aload 0 6), (6, s_getf 2 9 9), (9, s_icmp (fun x y => y ≤ x) 33 12), (12, s_aload 0 13), (13, s_iload 1 14), (14, s_iload 3 15), (15, s_inv mX2_areBeside 2 2 18), (18, s_if (fun x => x = 0) 27 21), (21, s_iload 2 22), (22, s_pushi 1 23), (23, s_iload 3 24), (24, s_bin (fun x y => x <<< (y &&& 31)) 25), (25, s_bin (fun x y => x ||| y) 26), (26, s_istore 2 27), (27, s_iinc 3 1 30), (30, s_goto 4), (33, s_iload 2 34), (34, s_iret)]
set_option maxRecDepth 20000 in
theorem zX2_besideSet : ∀ q ∈ kX2_besideSet, Snd RX2 cX2_besideSet 4 (some .int) (rmM mX2_besideSet) q.1 q.2 :=
  fm (z_iconst (n := 0) (by decide +kernel) (by decide)) (
  fm (z_istore_n (j := 2) (by decide +kernel) rfl (by decide)) (
  fm (z_iconst (n := 0) (by decide +kernel) (by decide)) (
  fm (z_istore_n (j := 3) (by decide +kernel) rfl (by decide)) (
  fm (z_iload_n (j := 3) (by decide +kernel) rfl) (
  fm (z_aload_n (j := 0) (by decide +kernel) rfl) (
  fm (z_getf (idx := 55) awX2 rfl (by decide) wd_1_53 rfl (by decide +kernel)) (
  fm (z_icmp_ge (off := 24) (by decide +kernel) (by decide)) (
  fm (z_aload_n (j := 0) (by decide +kernel) rfl) (
  fm (z_iload_n (j := 1) (by decide +kernel) rfl) (
  fm (z_iload_n (j := 3) (by decide +kernel) rfl) (
  fm (z_inv (idx := 112) rfl (by decide +kernel) wd_2_182 wd_2_183 wd_2_184 wd_1_2 wd_2_185 (by decide +kernel) ⟨Nat.le_of_ble_eq_true rfl, Nat.le_of_ble_eq_true rfl⟩) (
  fm (z_if_eq (off := 9) (by decide +kernel) (by decide)) (
  fm (z_iload_n (j := 2) (by decide +kernel) rfl) (
  fm (z_iconst (n := 1) (by decide +kernel) (by decide)) (
  fm (z_iload_n (j := 3) (by decide +kernel) rfl) (
  fm (z_ishl (by decide +kernel)) (
  fm (z_ior (by decide +kernel)) (
  fm (z_istore_n (j := 2) (by decide +kernel) rfl (by decide)) (
  fm (z_iinc (n := 1) (by decide +kernel) (by decide) (by decide)) (
  fm (z_goto (off := (-26)) (by decide +kernel) (by decide)) (
  fm (z_iload_n (j := 2) (by decide +kernel) rfl) (
  fm (z_iret rfl (by decide +kernel)) (fn)))))))))))))))))))))))
def kX2_bring : Cd := [(0, s_aload 0 1), (1, s_iload 2 2), (2, s_inv mX2_stallAt 2 1 5), (5, s_istore 3 6), (6, s_iload 3 7), (7, s_if (fun x => x < 0) 22 10), (10, s_aload 0 11), (11, s_getf 2 3 14), (14, s_iload 3 15), (15, s_aload 0 16), (16, s_getf 2 3 19), (19, s_iload 1 20), (20, s_iald 21), (21, s_iast 22), (22, s_aload 0 23), (23, s_getf 2 3 26), (26, s_iload 1 27), (27, s_iload 2 28), (28, s_iast 29), (29, s_vret)]
set_option maxRecDepth 20000 in
theorem zX2_bring : ∀ q ∈ kX2_bring, Snd RX2 cX2_bring 4 none (rmM mX2_bring) q.1 q.2 :=
  fm (z_aload_n (j := 0) (by decide +kernel) rfl) (
  fm (z_iload_n (j := 2) (by decide +kernel) rfl) (
  fm (z_inv (idx := 71) rfl (by decide +kernel) wd_2_222 wd_1_205 wd_1_206 wd_1_2 wd_1_207 (by decide +kernel) ⟨Nat.le_of_ble_eq_true rfl, Nat.le_of_ble_eq_true rfl⟩) (
  fm (z_istore_n (j := 3) (by decide +kernel) rfl (by decide)) (
  fm (z_iload_n (j := 3) (by decide +kernel) rfl) (
  fm (z_if_lt (off := 15) (by decide +kernel) (by decide)) (
  fm (z_aload_n (j := 0) (by decide +kernel) rfl) (
  fm (z_getf (idx := 21) awX2 rfl (by decide) wd_1_39 rfl (by decide +kernel)) (
  fm (z_iload_n (j := 3) (by decide +kernel) rfl) (
  fm (z_aload_n (j := 0) (by decide +kernel) rfl) (
  fm (z_getf (idx := 21) awX2 rfl (by decide) wd_1_39 rfl (by decide +kernel)) (
  fm (z_iload_n (j := 1) (by decide +kernel) rfl) (
  fm (z_iald (by decide +kernel)) (
  fm (z_iast (by decide +kernel)) (
  fm (z_aload_n (j := 0) (by decide +kernel) rfl) (
  fm (z_getf (idx := 21) awX2 rfl (by decide) wd_1_39 rfl (by decide +kernel)) (
  fm (z_iload_n (j := 1) (by decide +kernel) rfl) (
  fm (z_iload_n (j := 2) (by decide +kernel) rfl) (
  fm (z_iast (by decide +kernel)) (
  fm (z_vret rfl (by decide +kernel)) (fn))))))))))))))))))))
def kX2_draw : Cd := [(0, s_aload 0 1), (1, s_aload 0 2), (2, s_getf 2 11 5), (5, s_pushi 1103515245 7), (7, s_bin (fun x y => x * y) 8), (8, s_pushi 12345 11), (11, s_bin (fun x y => x + y) 12), (12, s_putf .int 2 11 15), (15, s_aload 0 16), (16, s_getf 2 11 19), (19, s_pushi 8 21), (21, s_bin (fun x y => (x.toUInt32 >>> (y.toUInt32 &&& Int32.toUInt32 31)).toInt32) 22), (22, s_iret)]
set_option maxRecDepth 20000 in
theorem zX2_draw : ∀ q ∈ kX2_draw, Snd RX2 cX2_draw 1 (some .int) (rmM mX2_draw) q.1 q.2 :=
  fm (z_aload_n (j := 0) (by decide +kernel) rfl) (
  fm (z_aload_n (j := 0) (by decide +kernel) rfl) (
  fm (z_getf (idx := 36) awX2 rfl (by decide) wd_1_58 rfl (by decide +kernel)) (
  fm (z_ldc (i := 116) (by decide +kernel) wd_2_239) (
  fm (z_imul (by decide +kernel)) (
  fm (z_sipush (n := 12345) (by decide +kernel) (by decide)) (
  fm (z_iadd (by decide +kernel)) (
  fm (z_putf (idx := 36) tyX2 tyX2_ok nmX2 awX2 rfl (by decide) wd_1_58 rfl rfl (by decide +kernel) (by decide +kernel)) (
  fm (z_aload_n (j := 0) (by decide +kernel) rfl) (
  fm (z_getf (idx := 36) awX2 rfl (by decide) wd_1_58 rfl (by decide +kernel)) (
  fm (z_bipush (n := 8) (by decide +kernel) (by decide)) (
  fm (z_iushr (by decide +kernel)) (
  fm (z_iret rfl (by decide +kernel)) (fn)))))))))))))
def kX2_exchange : Cd := [(0, s_aload 0 1), (1, s_getf 2 3 4), (4, s_iload 1 5), (5, s_iald 6), (6, s_istore 3 7), (7, s_aload 0 8), (8, s_getf 2 3 11), (11, s_iload 1 12), (12, s_aload 0 13), (13, s_getf 2 3 16), (16, s_iload 2 17), (17, s_iald 18), (18, s_iast 19), (19, s_aload 0 20), (20, s_getf 2 3 23), (23, s_iload 2 24), (24, s_iload 3 25), (25, s_iast 26), (26, s_vret)]
set_option maxRecDepth 20000 in
theorem zX2_exchange : ∀ q ∈ kX2_exchange, Snd RX2 cX2_exchange 4 none (rmM mX2_exchange) q.1 q.2 :=
  fm (z_aload_n (j := 0) (by decide +kernel) rfl) (
  fm (z_getf (idx := 21) awX2 rfl (by decide) wd_1_39 rfl (by decide +kernel)) (
  fm (z_iload_n (j := 1) (by decide +kernel) rfl) (
  fm (z_iald (by decide +kernel)) (
  fm (z_istore_n (j := 3) (by decide +kernel) rfl (by decide)) (
  fm (z_aload_n (j := 0) (by decide +kernel) rfl) (
  fm (z_getf (idx := 21) awX2 rfl (by decide) wd_1_39 rfl (by decide +kernel)) (
  fm (z_iload_n (j := 1) (by decide +kernel) rfl) (
  fm (z_aload_n (j := 0) (by decide +kernel) rfl) (
  fm (z_getf (idx := 21) awX2 rfl (by decide) wd_1_39 rfl (by decide +kernel)) (
  fm (z_iload_n (j := 2) (by decide +kernel) rfl) (
  fm (z_iald (by decide +kernel)) (
  fm (z_iast (by decide +kernel)) (
  fm (z_aload_n (j := 0) (by decide +kernel) rfl) (
  fm (z_getf (idx := 21) awX2 rfl (by decide) wd_1_39 rfl (by decide +kernel)) (
  fm (z_iload_n (j := 2) (by decide +kernel) rfl) (
  fm (z_iload_n (j := 3) (by decide +kernel) rfl) (
  fm (z_iast (by decide +kernel)) (
  fm (z_vret rfl (by decide +kernel)) (fn)))))))))))))))))))
def kX2_freePlaces : Cd := [(0, s_pushi 4095 3), (3, s_aload 0 4), (4, s_pushi 1 5), (5, s_aload 0 6), (6, s_getf 2 9 9), (9, s_bin (fun x y => x <<< (y &&& 31)) 10), (10, s_pushi 1 11), (11, s_bin (fun x y => x - y) 12), (12, s_inv mX2_placesOf 2 1 15), (15, s_pushi (-1) 16), (16, s_bin (fun x y => x ^^^ y) 17), (17, s_bin (fun x y => x &&& y) 18), (18, s_iret)]
set_option maxRecDepth 20000 in
theorem zX2_freePlaces : ∀ q ∈ kX2_freePlaces, Snd RX2 cX2_freePlaces 1 (some .int) (rmM mX2_freePlaces) q.1 q.2 :=
  fm (z_sipush (n := 4095) (by decide +kernel) (by decide)) (
  fm (z_aload_n (j := 0) (by decide +kernel) rfl) (
  fm (z_iconst (n := 1) (by decide +kernel) (by decide)) (
  fm (z_aload_n (j := 0) (by decide +kernel) rfl) (
  fm (z_getf (idx := 55) awX2 rfl (by decide) wd_1_53 rfl (by decide +kernel)) (
  fm (z_ishl (by decide +kernel)) (
  fm (z_iconst (n := 1) (by decide +kernel) (by decide)) (
  fm (z_isub (by decide +kernel)) (
  fm (z_inv (idx := 99) rfl (by decide +kernel) wd_2_52 wd_2_53 wd_2_54 wd_1_2 wd_2_55 (by decide +kernel) ⟨Nat.le_of_ble_eq_true rfl, Nat.le_of_ble_eq_true rfl⟩) (
  fm (z_iconst (n := (-1)) (by decide +kernel) (by decide)) (
  fm (z_ixor (by decide +kernel)) (
  fm (z_iand (by decide +kernel)) (
  fm (z_iret rfl (by decide +kernel)) (fn)))))))))))))
def kX2_isOfKind : Cd := [(0, s_aload 0 1), (1, s_getf 2 2 4), (4, s_iload 1 5), (5, s_iald 6), (6, s_istore 3 7), (7, s_pushi 0 8), (8, s_istore 4 10), (10, s_iload 4 12), (12, s_pushi 7 14), (14, s_icmp (fun x y => y ≤ x) 40 17), (17, s_iload 3 18), (18, s_if (fun x => x < 0) 40 21), (21, s_iload 3 22), (22, s_iload 2 23), (23, s_icmp (fun x y => x = y) 26 28), (26, s_pushi 1 27), (27, s_zret), (28, s_gets 56 31), (31, s_iload 3 32), (32, s_iald 33), (33, s_istore 3 34), (34, s_iinc 4 1 37), (37, s_goto 10), (40, s_pushi 0 41), (41, s_zret)]
set_option maxRecDepth 20000 in
theorem zX2_isOfKind : ∀ q ∈ kX2_isOfKind, Snd RX2 cX2_isOfKind 5 (some .boolean) (rmM mX2_isOfKind) q.1 q.2 :=
  fm (z_aload_n (j := 0) (by decide +kernel) rfl) (
  fm (z_getf (idx := 18) awX2 rfl (by decide) wd_1_37 rfl (by decide +kernel)) (
  fm (z_iload_n (j := 1) (by decide +kernel) rfl) (
  fm (z_iald (by decide +kernel)) (
  fm (z_istore_n (j := 3) (by decide +kernel) rfl (by decide)) (
  fm (z_iconst (n := 0) (by decide +kernel) (by decide)) (
  fm (z_istore (i := 4) (by decide +kernel) (by decide)) (
  fm (z_iload (i := 4) (by decide +kernel)) (
  fm (z_bipush (n := 7) (by decide +kernel) (by decide)) (
  fm (z_icmp_ge (off := 26) (by decide +kernel) (by decide)) (
  fm (z_iload_n (j := 3) (by decide +kernel) rfl) (
  fm (z_if_lt (off := 22) (by decide +kernel) (by decide)) (
  fm (z_iload_n (j := 3) (by decide +kernel) rfl) (
  fm (z_iload_n (j := 2) (by decide +kernel) rfl) (
  fm (z_icmp_ne (off := 5) (by decide +kernel) (by decide)) (
  fm (z_iconst (n := 1) (by decide +kernel) (by decide)) (
  fm (z_zret rfl (by decide +kernel)) (
  fm (z_getsK rfl (by decide +kernel)) (
  fm (z_iload_n (j := 3) (by decide +kernel) rfl) (
  fm (z_iald (by decide +kernel)) (
  fm (z_istore_n (j := 3) (by decide +kernel) rfl (by decide)) (
  fm (z_iinc (n := 1) (by decide +kernel) (by decide) (by decide)) (
  fm (z_goto (off := (-27)) (by decide +kernel) (by decide)) (
  fm (z_iconst (n := 0) (by decide +kernel) (by decide)) (
  fm (z_zret rfl (by decide +kernel)) (fn)))))))))))))))))))))))))
def kX2_offerAt : Cd := [(0, s_iload 1 1), (1, s_sw [(1, 40), (2, 98), (3, 46), (4, 98), (5, 66), (6, 75)] 98), (40, s_aload 0 41), (41, s_iload 2 42), (42, s_inv mX2_twofoldVisits 2 1 45), (45, s_iret), (46, s_aload 0 47), (47, s_getf 2 1 50), (50, s_iload 2 51), (51, s_iald 52), (52, s_pushi 1 53), (53, s_icmp (fun x y => x = y) 56 64), (56, s_aload 0 57), (57, s_iload 2 58), (58, s_inv mX2_twofoldVisits 2 1 61), (61, s_goto 65), (64, s_pushi 0 65), (65, s_iret), (66, s_aload 0 67), (67, s_getf 2 0 70), (70, s_iload 2 71), (71, s_iald 72), (72, s_pushi 2 73), (73, s_div 74), (74, s_iret), (75, s_aload 0 76), (76, s_getf 2 0 79), (79, s_iload 2 80), (80, s_iald 81), (81, s_pushi 2 82), (82, s_div 83), (83, s_iload 2 84), (84, s_aload 0 85), (85, s_getf 2 8 88), (88, s_icmp (fun x y => x = y) 91 95), (91, s_pushi 3 92), (92, s_goto 96), (95, s_pushi 1 96), (96, s_bin (fun x y => x * y) 97), (97, s_iret), (98, s_aload 0 99), (99, s_getf 2 0 102), (102, s_iload 2 103), (103, s_iald 104), (104, s_iret)]
set_option maxRecDepth 20000 in
theorem zX2_offerAt : ∀ q ∈ kX2_offerAt, Snd RX2 cX2_offerAt 3 (some .int) (rmM mX2_offerAt) q.1 q.2 :=
  fm (z_iload_n (j := 1) (by decide +kernel) rfl) (
  fm (z_tsw (dflt := 97) (lo := 1) (hi := 6) (offs := #[39, 97, 45, 97, 65, 74]) (len := 39) (by decide +kernel) (by decide) rfl (by decide) (by decide +kernel)) (
  fm (z_aload_n (j := 0) (by decide +kernel) rfl) (
  fm (z_iload_n (j := 2) (by decide +kernel) rfl) (
  fm (z_inv (idx := 67) rfl (by decide +kernel) wd_2_10 wd_2_12 ws_2 wd_1_2 wd_2_13 (by decide +kernel) ⟨Nat.le_of_ble_eq_true rfl, Nat.le_of_ble_eq_true rfl⟩) (
  fm (z_iret rfl (by decide +kernel)) (
  fm (z_aload_n (j := 0) (by decide +kernel) rfl) (
  fm (z_getf (idx := 15) awX2 rfl (by decide) wd_1_34 rfl (by decide +kernel)) (
  fm (z_iload_n (j := 2) (by decide +kernel) rfl) (
  fm (z_iald (by decide +kernel)) (
  fm (z_iconst (n := 1) (by decide +kernel) (by decide)) (
  fm (z_icmp_ne (off := 11) (by decide +kernel) (by decide)) (
  fm (z_aload_n (j := 0) (by decide +kernel) rfl) (
  fm (z_iload_n (j := 2) (by decide +kernel) rfl) (
  fm (z_inv (idx := 67) rfl (by decide +kernel) wd_2_10 wd_2_12 ws_2 wd_1_2 wd_2_13 (by decide +kernel) ⟨Nat.le_of_ble_eq_true rfl, Nat.le_of_ble_eq_true rfl⟩) (
  fm (z_goto (off := 4) (by decide +kernel) (by decide)) (
  fm (z_iconst (n := 0) (by decide +kernel) (by decide)) (
  fm (z_iret rfl (by decide +kernel)) (
  fm (z_aload_n (j := 0) (by decide +kernel) rfl) (
  fm (z_getf (idx := 9) awX2 rfl (by decide) wd_1_31 rfl (by decide +kernel)) (
  fm (z_iload_n (j := 2) (by decide +kernel) rfl) (
  fm (z_iald (by decide +kernel)) (
  fm (z_iconst (n := 2) (by decide +kernel) (by decide)) (
  fm (z_idiv (by decide +kernel)) (
  fm (z_iret rfl (by decide +kernel)) (
  fm (z_aload_n (j := 0) (by decide +kernel) rfl) (
  fm (z_getf (idx := 9) awX2 rfl (by decide) wd_1_31 rfl (by decide +kernel)) (
  fm (z_iload_n (j := 2) (by decide +kernel) rfl) (
  fm (z_iald (by decide +kernel)) (
  fm (z_iconst (n := 2) (by decide +kernel) (by decide)) (
  fm (z_idiv (by decide +kernel)) (
  fm (z_iload_n (j := 2) (by decide +kernel) rfl) (
  fm (z_aload_n (j := 0) (by decide +kernel) rfl) (
  fm (z_getf (idx := 52) awX2 rfl (by decide) wd_1_50 rfl (by decide +kernel)) (
  fm (z_icmp_ne (off := 7) (by decide +kernel) (by decide)) (
  fm (z_iconst (n := 3) (by decide +kernel) (by decide)) (
  fm (z_goto (off := 4) (by decide +kernel) (by decide)) (
  fm (z_iconst (n := 1) (by decide +kernel) (by decide)) (
  fm (z_imul (by decide +kernel)) (
  fm (z_iret rfl (by decide +kernel)) (
  fm (z_aload_n (j := 0) (by decide +kernel) rfl) (
  fm (z_getf (idx := 9) awX2 rfl (by decide) wd_1_31 rfl (by decide +kernel)) (
  fm (z_iload_n (j := 2) (by decide +kernel) rfl) (
  fm (z_iald (by decide +kernel)) (
  fm (z_iret rfl (by decide +kernel)) (fn)))))))))))))))))))))))))))))))))))))))))))))
def kX2_passHour : Cd := [(0, s_aload 0 1), (1, s_inv mX2_sellAll 2 0 4), (4, s_istore 1 5), (5, s_aload 0 6), (6, s_inv mX2_strike 2 0 9), (9, s_aload 0 10), (10, s_dup 11), (11, s_getf 2 10 14), (14, s_pushi 1 15), (15, s_bin (fun x y => x + y) 16), (16, s_putf .int 2 10 19), (19, s_iload 1 20), (20, s_iret)]
set_option maxRecDepth 20000 in
theorem zX2_passHour : ∀ q ∈ kX2_passHour, Snd RX2 cX2_passHour 2 (some .int) (rmM mX2_passHour) q.1 q.2 :=
  fm (z_aload_n (j := 0) (by decide +kernel) rfl) (
  fm (z_inv (idx := 78) rfl (by decide +kernel) wd_2_34 wd_2_35 wd_2_36 wd_1_2 wd_2_37 (by decide +kernel) ⟨Nat.le_of_ble_eq_true rfl, Nat.le_of_ble_eq_true rfl⟩) (
  fm (z_istore_n (j := 1) (by decide +kernel) rfl (by decide)) (
  fm (z_aload_n (j := 0) (by decide +kernel) rfl) (
  fm (z_inv (idx := 81) rfl (by decide +kernel) wd_2_43 wd_2_45 ws_4 wd_1_2 wd_2_46 (by decide +kernel) ⟨Nat.le_of_ble_eq_true rfl, Nat.le_of_ble_eq_true rfl⟩) (
  fm (z_aload_n (j := 0) (by decide +kernel) rfl) (
  fm (z_dup (by decide +kernel)) (
  fm (z_getf (idx := 58) awX2 rfl (by decide) wd_1_56 rfl (by decide +kernel)) (
  fm (z_iconst (n := 1) (by decide +kernel) (by decide)) (
  fm (z_iadd (by decide +kernel)) (
  fm (z_putf (idx := 58) tyX2 tyX2_ok nmX2 awX2 rfl (by decide) wd_1_56 rfl rfl (by decide +kernel) (by decide +kernel)) (
  fm (z_iload_n (j := 1) (by decide +kernel) rfl) (
  fm (z_iret rfl (by decide +kernel)) (fn)))))))))))))
def kX2_passHours : Cd := [(0, s_pushi 0 1), (1, s_istore 2 2), (2, s_pushi 0 3), (3, s_istore 3 4), (4, s_iload 3 5), (5, s_iload 1 6), (6, s_icmp (fun x y => y ≤ x) 22 9), (9, s_iload 2 10), (10, s_aload 0 11), (11, s_inv mX2_passHour 2 0 14), (14, s_bin (fun x y => x + y) 15), (15, s_istore 2 16), (16, s_iinc 3 1 19), (19, s_goto 4), (22, s_iload 2 23), (23, s_iret)]
set_option maxRecDepth 20000 in
theorem zX2_passHours : ∀ q ∈ kX2_passHours, Snd RX2 cX2_passHours 4 (some .int) (rmM mX2_passHours) q.1 q.2 :=
  fm (z_iconst (n := 0) (by decide +kernel) (by decide)) (
  fm (z_istore_n (j := 2) (by decide +kernel) rfl (by decide)) (
  fm (z_iconst (n := 0) (by decide +kernel) (by decide)) (
  fm (z_istore_n (j := 3) (by decide +kernel) rfl (by decide)) (
  fm (z_iload_n (j := 3) (by decide +kernel) rfl) (
  fm (z_iload_n (j := 1) (by decide +kernel) rfl) (
  fm (z_icmp_ge (off := 16) (by decide +kernel) (by decide)) (
  fm (z_iload_n (j := 2) (by decide +kernel) rfl) (
  fm (z_aload_n (j := 0) (by decide +kernel) rfl) (
  fm (z_inv (idx := 74) rfl (by decide +kernel) wd_2_30 wd_2_31 wd_2_32 wd_1_2 wd_2_33 (by decide +kernel) ⟨Nat.le_of_ble_eq_true rfl, Nat.le_of_ble_eq_true rfl⟩) (
  fm (z_iadd (by decide +kernel)) (
  fm (z_istore_n (j := 2) (by decide +kernel) rfl (by decide)) (
  fm (z_iinc (n := 1) (by decide +kernel) (by decide) (by decide)) (
  fm (z_goto (off := (-15)) (by decide +kernel) (by decide)) (
  fm (z_iload_n (j := 2) (by decide +kernel) rfl) (
  fm (z_iret rfl (by decide +kernel)) (fn))))))))))))))))
def kX2_placesOf : Cd := [(0, s_pushi 0 1), (1, s_istore 2 2), (2, s_pushi 0 3), (3, s_istore 3 4), (4, s_iload 3 5), (5, s_aload 0 6), (6, s_getf 2 9 9), (9, s_icmp (fun x y => y ≤ x) 38 12), (12, s_iload 1 13), (13, s_iload 3 14), (14, s_bin (fun x y => x >>> (y &&& 31)) 15), (15, s_pushi 1 16), (16, s_bin (fun x y => x &&& y) 17), (17, s_pushi 1 18), (18, s_icmp (fun x y => x = y) 21 32), (21, s_iload 2 22), (22, s_pushi 1 23), (23, s_aload 0 24), (24, s_getf 2 3 27), (27, s_iload 3 28), (28, s_iald 29), (29, s_bin (fun x y => x <<< (y &&& 31)) 30), (30, s_bin (fun x y => x ||| y) 31), (31, s_istore 2 32), (32, s_iinc 3 1 35), (35, s_goto 4), (38, s_iload 2 39), (39, s_iret)]
set_option maxRecDepth 20000 in
theorem zX2_placesOf : ∀ q ∈ kX2_placesOf, Snd RX2 cX2_placesOf 4 (some .int) (rmM mX2_placesOf) q.1 q.2 :=
  fm (z_iconst (n := 0) (by decide +kernel) (by decide)) (
  fm (z_istore_n (j := 2) (by decide +kernel) rfl (by decide)) (
  fm (z_iconst (n := 0) (by decide +kernel) (by decide)) (
  fm (z_istore_n (j := 3) (by decide +kernel) rfl (by decide)) (
  fm (z_iload_n (j := 3) (by decide +kernel) rfl) (
  fm (z_aload_n (j := 0) (by decide +kernel) rfl) (
  fm (z_getf (idx := 55) awX2 rfl (by decide) wd_1_53 rfl (by decide +kernel)) (
  fm (z_icmp_ge (off := 29) (by decide +kernel) (by decide)) (
  fm (z_iload_n (j := 1) (by decide +kernel) rfl) (
  fm (z_iload_n (j := 3) (by decide +kernel) rfl) (
  fm (z_ishr (by decide +kernel)) (
  fm (z_iconst (n := 1) (by decide +kernel) (by decide)) (
  fm (z_iand (by decide +kernel)) (
  fm (z_iconst (n := 1) (by decide +kernel) (by decide)) (
  fm (z_icmp_ne (off := 14) (by decide +kernel) (by decide)) (
  fm (z_iload_n (j := 2) (by decide +kernel) rfl) (
  fm (z_iconst (n := 1) (by decide +kernel) (by decide)) (
  fm (z_aload_n (j := 0) (by decide +kernel) rfl) (
  fm (z_getf (idx := 21) awX2 rfl (by decide) wd_1_39 rfl (by decide +kernel)) (
  fm (z_iload_n (j := 3) (by decide +kernel) rfl) (
  fm (z_iald (by decide +kernel)) (
  fm (z_ishl (by decide +kernel)) (
  fm (z_ior (by decide +kernel)) (
  fm (z_istore_n (j := 2) (by decide +kernel) rfl (by decide)) (
  fm (z_iinc (n := 1) (by decide +kernel) (by decide) (by decide)) (
  fm (z_goto (off := (-31)) (by decide +kernel) (by decide)) (
  fm (z_iload_n (j := 2) (by decide +kernel) rfl) (
  fm (z_iret rfl (by decide +kernel)) (fn))))))))))))))))))))))))))))
def kX2_priceOf : Cd := [(0, s_gets 57 3), (3, s_aload 0 4), (4, s_getf 2 2 7), (7, s_iload 1 8), (8, s_iald 9), (9, s_iald 10), (10, s_iret)]
set_option maxRecDepth 20000 in
theorem zX2_priceOf : ∀ q ∈ kX2_priceOf, Snd RX2 cX2_priceOf 2 (some .int) (rmM mX2_priceOf) q.1 q.2 :=
  fm (z_getsP rfl (by decide +kernel)) (
  fm (z_aload_n (j := 0) (by decide +kernel) rfl) (
  fm (z_getf (idx := 18) awX2 rfl (by decide) wd_1_37 rfl (by decide +kernel)) (
  fm (z_iload_n (j := 1) (by decide +kernel) rfl) (
  fm (z_iald (by decide +kernel)) (
  fm (z_iald (by decide +kernel)) (
  fm (z_iret rfl (by decide +kernel)) (fn)))))))
def kX2_sellAll : Cd := [(0, s_pushi 0 1), (1, s_istore 1 2), (2, s_pushi 0 3), (3, s_istore 2 4), (4, s_iload 2 5), (5, s_aload 0 6), (6, s_getf 2 9 9), (9, s_icmp (fun x y => y ≤ x) 84 12), (12, s_aload 0 13), (13, s_getf 2 4 16), (16, s_iload 2 17), (17, s_iald 18), (18, s_aload 0 19), (19, s_aload 0 20), (20, s_getf 2 2 23), (23, s_iload 2 24), (24, s_iald 25), (25, s_aload 0 26), (26, s_getf 2 3 29), (29, s_iload 2 30), (30, s_iald 31), (31, s_inv mX2_offerAt 2 2 34), (34, s_min 37), (37, s_istore 3 38), (38, s_aload 0 39), (39, s_getf 2 4 42), (42, s_iload 2 43), (43, s_dup2 44), (44, s_iald 45), (45, s_iload 3 46), (46, s_bin (fun x y => x - y) 47), (47, s_iast 48), (48, s_aload 0 49), (49, s_getf 2 6 52), (52, s_iload 2 53), (53, s_dup2 54), (54, s_iald 55), (55, s_iload 3 56), (56, s_bin (fun x y => x + y) 57), (57, s_iast 58), (58, s_aload 0 59), (59, s_getf 2 5 62), (62, s_iload 2 63), (63, s_dup2 64), (64, s_iald 65), (65, s_iload 3 66), (66, s_aload 0 67), (67, s_iload 2 68), (68, s_inv mX2_priceOf 2 1 71), (71, s_bin (fun x y => x * y) 72), (72, s_bin (fun x y => x + y) 73), (73, s_iast 74), (74, s_iload 1 75), (75, s_iload 3 76), (76, s_bin (fun x y => x + y) 77), (77, s_istore 1 78), (78, s_iinc 2 1 81), (81, s_goto 4), (84, s_iload 1 85), (85, s_iret)]
set_option maxRecDepth 20000 in
theorem zX2_sellAll : ∀ q ∈ kX2_sellAll, Snd RX2 cX2_sellAll 4 (some .int) (rmM mX2_sellAll) q.1 q.2 :=
  fm (z_iconst (n := 0) (by decide +kernel) (by decide)) (
  fm (z_istore_n (j := 1) (by decide +kernel) rfl (by decide)) (
  fm (z_iconst (n := 0) (by decide +kernel) (by decide)) (
  fm (z_istore_n (j := 2) (by decide +kernel) rfl (by decide)) (
  fm (z_iload_n (j := 2) (by decide +kernel) rfl) (
  fm (z_aload_n (j := 0) (by decide +kernel) rfl) (
  fm (z_getf (idx := 55) awX2 rfl (by decide) wd_1_53 rfl (by decide +kernel)) (
  fm (z_icmp_ge (off := 75) (by decide +kernel) (by decide)) (
  fm (z_aload_n (j := 0) (by decide +kernel) rfl) (
  fm (z_getf (idx := 24) awX2 rfl (by decide) wd_1_41 rfl (by decide +kernel)) (
  fm (z_iload_n (j := 2) (by decide +kernel) rfl) (
  fm (z_iald (by decide +kernel)) (
  fm (z_aload_n (j := 0) (by decide +kernel) rfl) (
  fm (z_aload_n (j := 0) (by decide +kernel) rfl) (
  fm (z_getf (idx := 18) awX2 rfl (by decide) wd_1_37 rfl (by decide +kernel)) (
  fm (z_iload_n (j := 2) (by decide +kernel) rfl) (
  fm (z_iald (by decide +kernel)) (
  fm (z_aload_n (j := 0) (by decide +kernel) rfl) (
  fm (z_getf (idx := 21) awX2 rfl (by decide) wd_1_39 rfl (by decide +kernel)) (
  fm (z_iload_n (j := 2) (by decide +kernel) rfl) (
  fm (z_iald (by decide +kernel)) (
  fm (z_inv (idx := 84) rfl (by decide +kernel) wd_2_38 wd_2_7 wd_2_8 wd_1_2 wd_2_9 (by decide +kernel) ⟨Nat.le_of_ble_eq_true rfl, Nat.le_of_ble_eq_true rfl⟩) (
  fm (z_min (idx := 88) (by decide +kernel) wd_2_39 wd_2_40 wd_1_8 wd_2_41 ⟨Nat.le_of_ble_eq_true rfl, Nat.le_of_ble_eq_true rfl⟩) (
  fm (z_istore_n (j := 3) (by decide +kernel) rfl (by decide)) (
  fm (z_aload_n (j := 0) (by decide +kernel) rfl) (
  fm (z_getf (idx := 24) awX2 rfl (by decide) wd_1_41 rfl (by decide +kernel)) (
  fm (z_iload_n (j := 2) (by decide +kernel) rfl) (
  fm (z_dup2 (by decide +kernel)) (
  fm (z_iald (by decide +kernel)) (
  fm (z_iload_n (j := 3) (by decide +kernel) rfl) (
  fm (z_isub (by decide +kernel)) (
  fm (z_iast (by decide +kernel)) (
  fm (z_aload_n (j := 0) (by decide +kernel) rfl) (
  fm (z_getf (idx := 30) awX2 rfl (by decide) wd_1_46 rfl (by decide +kernel)) (
  fm (z_iload_n (j := 2) (by decide +kernel) rfl) (
  fm (z_dup2 (by decide +kernel)) (
  fm (z_iald (by decide +kernel)) (
  fm (z_iload_n (j := 3) (by decide +kernel) rfl) (
  fm (z_iadd (by decide +kernel)) (
  fm (z_iast (by decide +kernel)) (
  fm (z_aload_n (j := 0) (by decide +kernel) rfl) (
  fm (z_getf (idx := 27) awX2 rfl (by decide) wd_1_44 rfl (by decide +kernel)) (
  fm (z_iload_n (j := 2) (by decide +kernel) rfl) (
  fm (z_dup2 (by decide +kernel)) (
  fm (z_iald (by decide +kernel)) (
  fm (z_iload_n (j := 3) (by decide +kernel) rfl) (
  fm (z_aload_n (j := 0) (by decide +kernel) rfl) (
  fm (z_iload_n (j := 2) (by decide +kernel) rfl) (
  fm (z_inv (idx := 93) rfl (by decide +kernel) wd_2_42 wd_1_221 wd_1_222 wd_1_2 wd_1_223 (by decide +kernel) ⟨Nat.le_of_ble_eq_true rfl, Nat.le_of_ble_eq_true rfl⟩) (
  fm (z_imul (by decide +kernel)) (
  fm (z_iadd (by decide +kernel)) (
  fm (z_iast (by decide +kernel)) (
  fm (z_iload_n (j := 1) (by decide +kernel) rfl) (
  fm (z_iload_n (j := 3) (by decide +kernel) rfl) (
  fm (z_iadd (by decide +kernel)) (
  fm (z_istore_n (j := 1) (by decide +kernel) rfl (by decide)) (
  fm (z_iinc (n := 1) (by decide +kernel) (by decide) (by decide)) (
  fm (z_goto (off := (-77)) (by decide +kernel) (by decide)) (
  fm (z_iload_n (j := 1) (by decide +kernel) rfl) (
  fm (z_iret rfl (by decide +kernel)) (fn))))))))))))))))))))))))))))))))))))))))))))))))))))))))))))
def kX2_soldOut : Cd := [(0, s_pushi 0 1), (1, s_istore 1 2), (2, s_pushi 0 3), (3, s_istore 2 4), (4, s_iload 2 5), (5, s_aload 0 6), (6, s_getf 2 9 9), (9, s_icmp (fun x y => y ≤ x) 33 12), (12, s_aload 0 13), (13, s_getf 2 4 16), (16, s_iload 2 17), (17, s_iald 18), (18, s_if (fun x => x = 0) 21 27), (21, s_iload 1 22), (22, s_pushi 1 23), (23, s_iload 2 24), (24, s_bin (fun x y => x <<< (y &&& 31)) 25), (25, s_bin (fun x y => x ||| y) 26), (26, s_istore 1 27), (27, s_iinc 2 1 30), (30, s_goto 4), (33, s_iload 1 34), (34, s_iret)]
set_option maxRecDepth 20000 in
theorem zX2_soldOut : ∀ q ∈ kX2_soldOut, Snd RX2 cX2_soldOut 3 (some .int) (rmM mX2_soldOut) q.1 q.2 :=
  fm (z_iconst (n := 0) (by decide +kernel) (by decide)) (
  fm (z_istore_n (j := 1) (by decide +kernel) rfl (by decide)) (
  fm (z_iconst (n := 0) (by decide +kernel) (by decide)) (
  fm (z_istore_n (j := 2) (by decide +kernel) rfl (by decide)) (
  fm (z_iload_n (j := 2) (by decide +kernel) rfl) (
  fm (z_aload_n (j := 0) (by decide +kernel) rfl) (
  fm (z_getf (idx := 55) awX2 rfl (by decide) wd_1_53 rfl (by decide +kernel)) (
  fm (z_icmp_ge (off := 24) (by decide +kernel) (by decide)) (
  fm (z_aload_n (j := 0) (by decide +kernel) rfl) (
  fm (z_getf (idx := 24) awX2 rfl (by decide) wd_1_41 rfl (by decide +kernel)) (
  fm (z_iload_n (j := 2) (by decide +kernel) rfl) (
  fm (z_iald (by decide +kernel)) (
  fm (z_if_ne (off := 9) (by decide +kernel) (by decide)) (
  fm (z_iload_n (j := 1) (by decide +kernel) rfl) (
  fm (z_iconst (n := 1) (by decide +kernel) (by decide)) (
  fm (z_iload_n (j := 2) (by decide +kernel) rfl) (
  fm (z_ishl (by decide +kernel)) (
  fm (z_ior (by decide +kernel)) (
  fm (z_istore_n (j := 1) (by decide +kernel) rfl (by decide)) (
  fm (z_iinc (n := 1) (by decide +kernel) (by decide) (by decide)) (
  fm (z_goto (off := (-26)) (by decide +kernel) (by decide)) (
  fm (z_iload_n (j := 1) (by decide +kernel) rfl) (
  fm (z_iret rfl (by decide +kernel)) (fn)))))))))))))))))))))))
def kX2_spotsInUse : Cd := [(0, s_pushi 0 1), (1, s_istore 1 2), (2, s_pushi 0 3), (3, s_istore 2 4), (4, s_iload 2 5), (5, s_pushi 10 7), (7, s_icmp (fun x y => y ≤ x) 28 10), (10, s_aload 0 11), (11, s_getf 2 7 14), (14, s_iload 2 15), (15, s_iald 16), (16, s_if (fun x => x < 0) 22 19), (19, s_iinc 1 1 22), (22, s_iinc 2 1 25), (25, s_goto 4), (28, s_iload 1 29), (29, s_iret)]
set_option maxRecDepth 20000 in
theorem zX2_spotsInUse : ∀ q ∈ kX2_spotsInUse, Snd RX2 cX2_spotsInUse 3 (some .int) (rmM mX2_spotsInUse) q.1 q.2 :=
  fm (z_iconst (n := 0) (by decide +kernel) (by decide)) (
  fm (z_istore_n (j := 1) (by decide +kernel) rfl (by decide)) (
  fm (z_iconst (n := 0) (by decide +kernel) (by decide)) (
  fm (z_istore_n (j := 2) (by decide +kernel) rfl (by decide)) (
  fm (z_iload_n (j := 2) (by decide +kernel) rfl) (
  fm (z_bipush (n := 10) (by decide +kernel) (by decide)) (
  fm (z_icmp_ge (off := 21) (by decide +kernel) (by decide)) (
  fm (z_aload_n (j := 0) (by decide +kernel) rfl) (
  fm (z_getf (idx := 33) awX2 rfl (by decide) wd_1_48 rfl (by decide +kernel)) (
  fm (z_iload_n (j := 2) (by decide +kernel) rfl) (
  fm (z_iald (by decide +kernel)) (
  fm (z_if_lt (off := 6) (by decide +kernel) (by decide)) (
  fm (z_iinc (n := 1) (by decide +kernel) (by decide) (by decide)) (
  fm (z_iinc (n := 1) (by decide +kernel) (by decide) (by decide)) (
  fm (z_goto (off := (-21)) (by decide +kernel) (by decide)) (
  fm (z_iload_n (j := 1) (by decide +kernel) rfl) (
  fm (z_iret rfl (by decide +kernel)) (fn)))))))))))))))))
def kX2_stallAt : Cd := [(0, s_pushi 0 1), (1, s_istore 2 2), (2, s_iload 2 3), (3, s_aload 0 4), (4, s_getf 2 9 7), (7, s_icmp (fun x y => y ≤ x) 28 10), (10, s_aload 0 11), (11, s_getf 2 3 14), (14, s_iload 2 15), (15, s_iald 16), (16, s_iload 1 17), (17, s_icmp (fun x y => x = y) 20 22), (20, s_iload 2 21), (21, s_iret), (22, s_iinc 2 1 25), (25, s_goto 2), (28, s_pushi (-1) 29), (29, s_iret)]
set_option maxRecDepth 20000 in
theorem zX2_stallAt : ∀ q ∈ kX2_stallAt, Snd RX2 cX2_stallAt 3 (some .int) (rmM mX2_stallAt) q.1 q.2 :=
  fm (z_iconst (n := 0) (by decide +kernel) (by decide)) (
  fm (z_istore_n (j := 2) (by decide +kernel) rfl (by decide)) (
  fm (z_iload_n (j := 2) (by decide +kernel) rfl) (
  fm (z_aload_n (j := 0) (by decide +kernel) rfl) (
  fm (z_getf (idx := 55) awX2 rfl (by decide) wd_1_53 rfl (by decide +kernel)) (
  fm (z_icmp_ge (off := 21) (by decide +kernel) (by decide)) (
  fm (z_aload_n (j := 0) (by decide +kernel) rfl) (
  fm (z_getf (idx := 21) awX2 rfl (by decide) wd_1_39 rfl (by decide +kernel)) (
  fm (z_iload_n (j := 2) (by decide +kernel) rfl) (
  fm (z_iald (by decide +kernel)) (
  fm (z_iload_n (j := 1) (by decide +kernel) rfl) (
  fm (z_icmp_ne (off := 5) (by decide +kernel) (by decide)) (
  fm (z_iload_n (j := 2) (by decide +kernel) rfl) (
  fm (z_iret rfl (by decide +kernel)) (
  fm (z_iinc (n := 1) (by decide +kernel) (by decide) (by decide)) (
  fm (z_goto (off := (-23)) (by decide +kernel) (by decide)) (
  fm (z_iconst (n := (-1)) (by decide +kernel) (by decide)) (
  fm (z_iret rfl (by decide +kernel)) (fn))))))))))))))))))
def kX2_standsLike : Cd := [(0, s_pushi 0 1), (1, s_istore 2 2), (2, s_iload 2 3), (3, s_aload 0 4), (4, s_getf 2 9 7), (7, s_icmp (fun x y => y ≤ x) 33 10), (10, s_aload 0 11), (11, s_getf 2 3 14), (14, s_iload 2 15), (15, s_iald 16), (16, s_aload 1 17), (17, s_getf 2 3 20), (20, s_iload 2 21), (21, s_iald 22), (22, s_icmp (fun x y => x = y) 27 25), (25, s_pushi 0 26), (26, s_zret), (27, s_iinc 2 1 30), (30, s_goto 2), (33, s_pushi 1 34), (34, s_zret)]
set_option maxRecDepth 20000 in
theorem zX2_standsLike : ∀ q ∈ kX2_standsLike, Snd RX2 cX2_standsLike 3 (some .boolean) (rmM mX2_standsLike) q.1 q.2 :=
  fm (z_iconst (n := 0) (by decide +kernel) (by decide)) (
  fm (z_istore_n (j := 2) (by decide +kernel) rfl (by decide)) (
  fm (z_iload_n (j := 2) (by decide +kernel) rfl) (
  fm (z_aload_n (j := 0) (by decide +kernel) rfl) (
  fm (z_getf (idx := 55) awX2 rfl (by decide) wd_1_53 rfl (by decide +kernel)) (
  fm (z_icmp_ge (off := 26) (by decide +kernel) (by decide)) (
  fm (z_aload_n (j := 0) (by decide +kernel) rfl) (
  fm (z_getf (idx := 21) awX2 rfl (by decide) wd_1_39 rfl (by decide +kernel)) (
  fm (z_iload_n (j := 2) (by decide +kernel) rfl) (
  fm (z_iald (by decide +kernel)) (
  fm (z_aload_n (j := 1) (by decide +kernel) rfl) (
  fm (z_getf (idx := 21) awX2 rfl (by decide) wd_1_39 rfl (by decide +kernel)) (
  fm (z_iload_n (j := 2) (by decide +kernel) rfl) (
  fm (z_iald (by decide +kernel)) (
  fm (z_icmp_eq (off := 5) (by decide +kernel) (by decide)) (
  fm (z_iconst (n := 0) (by decide +kernel) (by decide)) (
  fm (z_zret rfl (by decide +kernel)) (
  fm (z_iinc (n := 1) (by decide +kernel) (by decide) (by decide)) (
  fm (z_goto (off := (-28)) (by decide +kernel) (by decide)) (
  fm (z_iconst (n := 1) (by decide +kernel) (by decide)) (
  fm (z_zret rfl (by decide +kernel)) (fn)))))))))))))))))))))
def kX2_stayers : Cd := [(0, s_pushi 0 1), (1, s_istore 1 2), (2, s_pushi 0 3), (3, s_istore 2 4), (4, s_iload 2 5), (5, s_aload 0 6), (6, s_getf 2 9 9), (9, s_icmp (fun x y => y ≤ x) 41 12), (12, s_aload 0 13), (13, s_getf 2 4 16), (16, s_iload 2 17), (17, s_iald 18), (18, s_if (fun x => x = 0) 29 21), (21, s_aload 0 22), (22, s_iload 2 23), (23, s_inv mX2_wouldGo 2 1 26), (26, s_if (fun x => x = 0) 29 35), (29, s_iload 1 30), (30, s_pushi 1 31), (31, s_iload 2 32), (32, s_bin (fun x y => x <<< (y &&& 31)) 33), (33, s_bin (fun x y => x ||| y) 34), (34, s_istore 1 35), (35, s_iinc 2 1 38), (38, s_goto 4), (41, s_iload 1 42), (42, s_iret)]
set_option maxRecDepth 20000 in
theorem zX2_stayers : ∀ q ∈ kX2_stayers, Snd RX2 cX2_stayers 3 (some .int) (rmM mX2_stayers) q.1 q.2 :=
  fm (z_iconst (n := 0) (by decide +kernel) (by decide)) (
  fm (z_istore_n (j := 1) (by decide +kernel) rfl (by decide)) (
  fm (z_iconst (n := 0) (by decide +kernel) (by decide)) (
  fm (z_istore_n (j := 2) (by decide +kernel) rfl (by decide)) (
  fm (z_iload_n (j := 2) (by decide +kernel) rfl) (
  fm (z_aload_n (j := 0) (by decide +kernel) rfl) (
  fm (z_getf (idx := 55) awX2 rfl (by decide) wd_1_53 rfl (by decide +kernel)) (
  fm (z_icmp_ge (off := 32) (by decide +kernel) (by decide)) (
  fm (z_aload_n (j := 0) (by decide +kernel) rfl) (
  fm (z_getf (idx := 24) awX2 rfl (by decide) wd_1_41 rfl (by decide +kernel)) (
  fm (z_iload_n (j := 2) (by decide +kernel) rfl) (
  fm (z_iald (by decide +kernel)) (
  fm (z_if_eq (off := 11) (by decide +kernel) (by decide)) (
  fm (z_aload_n (j := 0) (by decide +kernel) rfl) (
  fm (z_iload_n (j := 2) (by decide +kernel) rfl) (
  fm (z_inv (idx := 105) rfl (by decide +kernel) wd_2_51 wd_1_227 wd_1_228 wd_1_2 wd_1_229 (by decide +kernel) ⟨Nat.le_of_ble_eq_true rfl, Nat.le_of_ble_eq_true rfl⟩) (
  fm (z_if_ne (off := 9) (by decide +kernel) (by decide)) (
  fm (z_iload_n (j := 1) (by decide +kernel) rfl) (
  fm (z_iconst (n := 1) (by decide +kernel) (by decide)) (
  fm (z_iload_n (j := 2) (by decide +kernel) rfl) (
  fm (z_ishl (by decide +kernel)) (
  fm (z_ior (by decide +kernel)) (
  fm (z_istore_n (j := 1) (by decide +kernel) rfl (by decide)) (
  fm (z_iinc (n := 1) (by decide +kernel) (by decide) (by decide)) (
  fm (z_goto (off := (-34)) (by decide +kernel) (by decide)) (
  fm (z_iload_n (j := 1) (by decide +kernel) rfl) (
  fm (z_iret rfl (by decide +kernel)) (fn)))))))))))))))))))))))))))
def kX2_stepsFrom : Cd := [(0, s_pushi 1 1), (1, s_istore 3 2), (2, s_iload 3 3), (3, s_pushi 12 5), (5, s_icmp (fun x y => y ≤ x) 28 8), (8, s_iload 2 9), (9, s_iload 1 10), (10, s_iload 3 11), (11, s_bin (fun x y => x + y) 12), (12, s_pushi 12 14), (14, s_rem 15), (15, s_bin (fun x y => x >>> (y &&& 31)) 16), (16, s_pushi 1 17), (17, s_bin (fun x y => x &&& y) 18), (18, s_pushi 1 19), (19, s_icmp (fun x y => x = y) 22 28), (22, s_iinc 3 1 25), (25, s_goto 2), (28, s_iload 3 29), (29, s_iret)]
set_option maxRecDepth 20000 in
theorem zX2_stepsFrom : ∀ q ∈ kX2_stepsFrom, Snd RX2 cX2_stepsFrom 4 (some .int) (rmM mX2_stepsFrom) q.1 q.2 :=
  fm (z_iconst (n := 1) (by decide +kernel) (by decide)) (
  fm (z_istore_n (j := 3) (by decide +kernel) rfl (by decide)) (
  fm (z_iload_n (j := 3) (by decide +kernel) rfl) (
  fm (z_bipush (n := 12) (by decide +kernel) (by decide)) (
  fm (z_icmp_ge (off := 23) (by decide +kernel) (by decide)) (
  fm (z_iload_n (j := 2) (by decide +kernel) rfl) (
  fm (z_iload_n (j := 1) (by decide +kernel) rfl) (
  fm (z_iload_n (j := 3) (by decide +kernel) rfl) (
  fm (z_iadd (by decide +kernel)) (
  fm (z_bipush (n := 12) (by decide +kernel) (by decide)) (
  fm (z_irem (by decide +kernel)) (
  fm (z_ishr (by decide +kernel)) (
  fm (z_iconst (n := 1) (by decide +kernel) (by decide)) (
  fm (z_iand (by decide +kernel)) (
  fm (z_iconst (n := 1) (by decide +kernel) (by decide)) (
  fm (z_icmp_ne (off := 9) (by decide +kernel) (by decide)) (
  fm (z_iinc (n := 1) (by decide +kernel) (by decide) (by decide)) (
  fm (z_goto (off := (-23)) (by decide +kernel) (by decide)) (
  fm (z_iload_n (j := 3) (by decide +kernel) rfl) (
  fm (z_iret rfl (by decide +kernel)) (fn))))))))))))))))))))
def kX2_strike : Cd := [(0, s_aload 0 1), (1, s_inv mX2_stayers 2 0 4), (4, s_istore 1 5), (5, s_aload 0 6), (6, s_iload 1 7), (7, s_inv mX2_placesOf 2 1 10), (10, s_istore 2 11), (11, s_pushi 0 12), (12, s_istore 3 13), (13, s_iload 3 14), (14, s_aload 0 15), (15, s_getf 2 9 18), (18, s_icmp (fun x y => y ≤ x) 62 21), (21, s_iload 1 22), (22, s_iload 3 23), (23, s_bin (fun x y => x >>> (y &&& 31)) 24), (24, s_pushi 1 25), (25, s_bin (fun x y => x &&& y) 26), (26, s_if (fun x => x = 0) 29 56), (29, s_aload 0 30), (30, s_getf 2 3 33), (33, s_iload 3 34), (34, s_aload 0 35), (35, s_getf 2 3 38), (38, s_iload 3 39), (39, s_iald 40), (40, s_aload 0 41), (41, s_aload 0 42), (42, s_getf 2 3 45), (45, s_iload 3 46), (46, s_iald 47), (47, s_iload 2 48), (48, s_inv mX2_stepsFrom 2 2 51), (51, s_bin (fun x y => x + y) 52), (52, s_pushi 12 54), (54, s_rem 55), (55, s_iast 56), (56, s_iinc 3 1 59), (59, s_goto 13), (62, s_vret)]
set_option maxRecDepth 20000 in
theorem zX2_strike : ∀ q ∈ kX2_strike, Snd RX2 cX2_strike 4 none (rmM mX2_strike) q.1 q.2 :=
  fm (z_aload_n (j := 0) (by decide +kernel) rfl) (
  fm (z_inv (idx := 96) rfl (by decide +kernel) wd_2_47 wd_2_48 wd_2_49 wd_1_2 wd_2_50 (by decide +kernel) ⟨Nat.le_of_ble_eq_true rfl, Nat.le_of_ble_eq_true rfl⟩) (
  fm (z_istore_n (j := 1) (by decide +kernel) rfl (by decide)) (
  fm (z_aload_n (j := 0) (by decide +kernel) rfl) (
  fm (z_iload_n (j := 1) (by decide +kernel) rfl) (
  fm (z_inv (idx := 99) rfl (by decide +kernel) wd_2_52 wd_2_53 wd_2_54 wd_1_2 wd_2_55 (by decide +kernel) ⟨Nat.le_of_ble_eq_true rfl, Nat.le_of_ble_eq_true rfl⟩) (
  fm (z_istore_n (j := 2) (by decide +kernel) rfl (by decide)) (
  fm (z_iconst (n := 0) (by decide +kernel) (by decide)) (
  fm (z_istore_n (j := 3) (by decide +kernel) rfl (by decide)) (
  fm (z_iload_n (j := 3) (by decide +kernel) rfl) (
  fm (z_aload_n (j := 0) (by decide +kernel) rfl) (
  fm (z_getf (idx := 55) awX2 rfl (by decide) wd_1_53 rfl (by decide +kernel)) (
  fm (z_icmp_ge (off := 44) (by decide +kernel) (by decide)) (
  fm (z_iload_n (j := 1) (by decide +kernel) rfl) (
  fm (z_iload_n (j := 3) (by decide +kernel) rfl) (
  fm (z_ishr (by decide +kernel)) (
  fm (z_iconst (n := 1) (by decide +kernel) (by decide)) (
  fm (z_iand (by decide +kernel)) (
  fm (z_if_ne (off := 30) (by decide +kernel) (by decide)) (
  fm (z_aload_n (j := 0) (by decide +kernel) rfl) (
  fm (z_getf (idx := 21) awX2 rfl (by decide) wd_1_39 rfl (by decide +kernel)) (
  fm (z_iload_n (j := 3) (by decide +kernel) rfl) (
  fm (z_aload_n (j := 0) (by decide +kernel) rfl) (
  fm (z_getf (idx := 21) awX2 rfl (by decide) wd_1_39 rfl (by decide +kernel)) (
  fm (z_iload_n (j := 3) (by decide +kernel) rfl) (
  fm (z_iald (by decide +kernel)) (
  fm (z_aload_n (j := 0) (by decide +kernel) rfl) (
  fm (z_aload_n (j := 0) (by decide +kernel) rfl) (
  fm (z_getf (idx := 21) awX2 rfl (by decide) wd_1_39 rfl (by decide +kernel)) (
  fm (z_iload_n (j := 3) (by decide +kernel) rfl) (
  fm (z_iald (by decide +kernel)) (
  fm (z_iload_n (j := 2) (by decide +kernel) rfl) (
  fm (z_inv (idx := 102) rfl (by decide +kernel) wd_2_56 wd_2_57 wd_2_58 wd_1_2 wd_2_59 (by decide +kernel) ⟨Nat.le_of_ble_eq_true rfl, Nat.le_of_ble_eq_true rfl⟩) (
  fm (z_iadd (by decide +kernel)) (
  fm (z_bipush (n := 12) (by decide +kernel) (by decide)) (
  fm (z_irem (by decide +kernel)) (
  fm (z_iast (by decide +kernel)) (
  fm (z_iinc (n := 1) (by decide +kernel) (by decide) (by decide)) (
  fm (z_goto (off := (-46)) (by decide +kernel) (by decide)) (
  fm (z_vret rfl (by decide +kernel)) (fn))))))))))))))))))))))))))))))))))))))))
def kX2_twofoldVisits : Cd := [(0, s_aload 0 1), (1, s_getf 2 0 4), (4, s_iload 1 5), (5, s_iald 6), (6, s_aload 0 7), (7, s_getf 2 0 10), (10, s_iload 1 11), (11, s_pushi 1 12), (12, s_bin (fun x y => x + y) 13), (13, s_pushi 12 15), (15, s_rem 16), (16, s_iald 17), (17, s_bin (fun x y => x + y) 18), (18, s_iret)]
set_option maxRecDepth 20000 in
theorem zX2_twofoldVisits : ∀ q ∈ kX2_twofoldVisits, Snd RX2 cX2_twofoldVisits 2 (some .int) (rmM mX2_twofoldVisits) q.1 q.2 :=
  fm (z_aload_n (j := 0) (by decide +kernel) rfl) (
  fm (z_getf (idx := 9) awX2 rfl (by decide) wd_1_31 rfl (by decide +kernel)) (
  fm (z_iload_n (j := 1) (by decide +kernel) rfl) (
  fm (z_iald (by decide +kernel)) (
  fm (z_aload_n (j := 0) (by decide +kernel) rfl) (
  fm (z_getf (idx := 9) awX2 rfl (by decide) wd_1_31 rfl (by decide +kernel)) (
  fm (z_iload_n (j := 1) (by decide +kernel) rfl) (
  fm (z_iconst (n := 1) (by decide +kernel) (by decide)) (
  fm (z_iadd (by decide +kernel)) (
  fm (z_bipush (n := 12) (by decide +kernel) (by decide)) (
  fm (z_irem (by decide +kernel)) (
  fm (z_iald (by decide +kernel)) (
  fm (z_iadd (by decide +kernel)) (
  fm (z_iret rfl (by decide +kernel)) (fn))))))))))))))
def kX2_wouldGo : Cd := [(0, s_aload 0 1), (1, s_getf 2 2 4), (4, s_iload 1 5), (5, s_iald 6), (6, s_sw [(2, 32), (4, 47)] 71), (32, s_aload 0 33), (33, s_getf 2 10 36), (36, s_pushi 2 37), (37, s_rem 38), (38, s_if (fun x => x = 0) 41 45), (41, s_pushi 1 42), (42, s_goto 46), (45, s_pushi 0 46), (46, s_zret), (47, s_aload 0 48), (48, s_getf 2 10 51), (51, s_pushi 2 52), (52, s_rem 53), (53, s_if (fun x => x = 0) 56 69), (56, s_aload 0 57), (57, s_getf 2 10 60), (60, s_pushi 3 61), (61, s_rem 62), (62, s_if (fun x => x = 0) 65 69), (65, s_pushi 1 66), (66, s_goto 70), (69, s_pushi 0 70), (70, s_zret), (71, s_pushi 1 72), (72, s_zret)]
set_option maxRecDepth 20000 in
theorem zX2_wouldGo : ∀ q ∈ kX2_wouldGo, Snd RX2 cX2_wouldGo 2 (some .boolean) (rmM mX2_wouldGo) q.1 q.2 :=
  fm (z_aload_n (j := 0) (by decide +kernel) rfl) (
  fm (z_getf (idx := 18) awX2 rfl (by decide) wd_1_37 rfl (by decide +kernel)) (
  fm (z_iload_n (j := 1) (by decide +kernel) rfl) (
  fm (z_iald (by decide +kernel)) (
  fm (z_lsw (dflt := 65) (ps := #[(2, 26), (4, 41)]) (len := 26) (by decide +kernel) (by decide) (by decide +kernel) (by decide +kernel)) (
  fm (z_aload_n (j := 0) (by decide +kernel) rfl) (
  fm (z_getf (idx := 58) awX2 rfl (by decide) wd_1_56 rfl (by decide +kernel)) (
  fm (z_iconst (n := 2) (by decide +kernel) (by decide)) (
  fm (z_irem (by decide +kernel)) (
  fm (z_if_ne (off := 7) (by decide +kernel) (by decide)) (
  fm (z_iconst (n := 1) (by decide +kernel) (by decide)) (
  fm (z_goto (off := 4) (by decide +kernel) (by decide)) (
  fm (z_iconst (n := 0) (by decide +kernel) (by decide)) (
  fm (z_zret rfl (by decide +kernel)) (
  fm (z_aload_n (j := 0) (by decide +kernel) rfl) (
  fm (z_getf (idx := 58) awX2 rfl (by decide) wd_1_56 rfl (by decide +kernel)) (
  fm (z_iconst (n := 2) (by decide +kernel) (by decide)) (
  fm (z_irem (by decide +kernel)) (
  fm (z_if_ne (off := 16) (by decide +kernel) (by decide)) (
  fm (z_aload_n (j := 0) (by decide +kernel) rfl) (
  fm (z_getf (idx := 58) awX2 rfl (by decide) wd_1_56 rfl (by decide +kernel)) (
  fm (z_iconst (n := 3) (by decide +kernel) (by decide)) (
  fm (z_irem (by decide +kernel)) (
  fm (z_if_ne (off := 7) (by decide +kernel) (by decide)) (
  fm (z_iconst (n := 1) (by decide +kernel) (by decide)) (
  fm (z_goto (off := 4) (by decide +kernel) (by decide)) (
  fm (z_iconst (n := 0) (by decide +kernel) (by decide)) (
  fm (z_zret rfl (by decide +kernel)) (
  fm (z_iconst (n := 1) (by decide +kernel) (by decide)) (
  fm (z_zret rfl (by decide +kernel)) (fn))))))))))))))))))))))))))))))
