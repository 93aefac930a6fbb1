/-! CODE of X3, by program -/
def kX3_isBetween : Cd := [(0, s_iload 1 1), (1, s_if (fun x => x < 0) 36 4), (4, s_iload 1 5), (5, s_aload 0 6), (6, s_getf 3 1 9), (9, s_icmp (fun x y => y ≤ x) 36 12), (12, s_aload 0 13), (13, s_getf 3 0 16), (16, s_iload 1 17), (17, s_iald 18), (18, s_iload 2 19), (19, s_icmp (fun x y => x < y) 36 22), (22, s_aload 0 23), (23, s_getf 3 0 26), (26, s_iload 1 27), (27, s_iald 28), (28, s_iload 3 29), (29, s_icmp (fun x y => y < x) 36 32), (32, s_pushi 1 33), (33, s_goto 37), (36, s_pushi 0 37), (37, s_zret)]
set_option maxRecDepth 20000 in
theorem zX3_isBetween : ∀ q ∈ kX3_isBetween, Snd RX3 cX3_isBetween 4 (some .boolean) (rmM mX3_isBetween) q.1 q.2 :=
  fm (z_iload_n (j := 1) (by decide +kernel) rfl) (
  fm (z_if_lt (off := 35) (by decide +kernel) (by decide)) (
  fm (z_iload_n (j := 1) (by decide +kernel) rfl) (
  fm (z_aload_n (j := 0) (by decide +kernel) rfl) (
  fm (z_getf (idx := 15) awX3 rfl (by decide) wd_1_107 rfl (by decide +kernel)) (
  fm (z_icmp_ge (off := 27) (by decide +kernel) (by decide)) (
  fm (z_aload_n (j := 0) (by decide +kernel) rfl) (
  fm (z_getf (idx := 9) awX3 rfl (by decide) wd_1_106 rfl (by decide +kernel)) (
  fm (z_iload_n (j := 1) (by decide +kernel) rfl) (
  fm (z_iald (by decide +kernel)) (
  fm (z_iload_n (j := 2) (by decide +kernel) rfl) (
  fm (z_icmp_lt (off := 17) (by decide +kernel) (by decide)) (
  fm (z_aload_n (j := 0) (by decide +kernel) rfl) (
  fm (z_getf (idx := 9) awX3 rfl (by decide) wd_1_106 rfl (by decide +kernel)) (
  fm (z_iload_n (j := 1) (by decide +kernel) rfl) (
  fm (z_iald (by decide +kernel)) (
  fm (z_iload_n (j := 3) (by decide +kernel) rfl) (
  fm (z_icmp_gt (off := 7) (by decide +kernel) (by decide)) (
  fm (z_iconst (n := 1) (by decide +kernel) (by decide)) (
  fm (z_goto (off := 4) (by decide +kernel) (by decide)) (
  fm (z_iconst (n := 0) (by decide +kernel) (by decide)) (
  fm (z_zret rfl (by decide +kernel)) (fn))))))))))))))))))))))
def kX3_isNumber : Cd := [(0, s_aload 0 1), (1, s_getf 3 2 4), (4, s_pushi 2 5), (5, s_icmp (fun x y => x = y) 8 28), (8, s_aload 0 9), (9, s_getf 3 5 12), (12, s_iload 1 13), (13, s_icmp (fun x y => x < y) 28 16), (16, s_aload 0 17), (17, s_getf 3 5 20), (20, s_iload 2 21), (21, s_icmp (fun x y => y < x) 28 24), (24, s_pushi 1 25), (25, s_goto 29), (28, s_pushi 0 29), (29, s_zret)]
set_option maxRecDepth 20000 in
theorem zX3_isNumber : ∀ q ∈ kX3_isNumber, Snd RX3 cX3_isNumber 3 (some .boolean) (rmM mX3_isNumber) q.1 q.2 :=
  fm (z_aload_n (j := 0) (by decide +kernel) rfl) (
  fm (z_getf (idx := 32) awX3 rfl (by decide) wd_1_109 rfl (by decide +kernel)) (
  fm (z_iconst (n := 2) (by decide +kernel) (by decide)) (
  fm (z_icmp_ne (off := 23) (by decide +kernel) (by decide)) (
  fm (z_aload_n (j := 0) (by decide +kernel) rfl) (
  fm (z_getf (idx := 47) awX3 rfl (by decide) wd_1_112 rfl (by decide +kernel)) (
  fm (z_iload_n (j := 1) (by decide +kernel) rfl) (
  fm (z_icmp_lt (off := 15) (by decide +kernel) (by decide)) (
  fm (z_aload_n (j := 0) (by decide +kernel) rfl) (
  fm (z_getf (idx := 47) awX3 rfl (by decide) wd_1_112 rfl (by decide +kernel)) (
  fm (z_iload_n (j := 2) (by decide +kernel) rfl) (
  fm (z_icmp_gt (off := 7) (by decide +kernel) (by decide)) (
  fm (z_iconst (n := 1) (by decide +kernel) (by decide)) (
  fm (z_goto (off := 4) (by decide +kernel) (by decide)) (
  fm (z_iconst (n := 0) (by decide +kernel) (by decide)) (
  fm (z_zret rfl (by decide +kernel)) (fn))))))))))))))))
def kX3_isWord : Cd := [(0, s_aload 0 1), (1, s_getf 3 2 4), (4, s_pushi 1 5), (5, s_icmp (fun x y => x = y) 8 35), (8, s_aload 0 9), (9, s_getf 3 4 12), (12, s_aload 0 13), (13, s_getf 3 1 16), (16, s_icmp (fun x y => y < x) 35 19), (19, s_aload 1 20), (20, s_invT mJ0_length_8abf5 0 23), (23, s_aload 0 24), (24, s_getf 3 4 27), (27, s_aload 0 28), (28, s_getf 3 3 31), (31, s_bin (fun x y => x - y) 32), (32, s_icmp (fun x y => x = y) 37 35), (35, s_pushi 0 36), (36, s_zret), (37, s_pushi 0 38), (38, s_istore 2 39), (39, s_iload 2 40), (40, s_aload 1 41), (41, s_invT mJ0_length_8abf5 0 44), (44, s_icmp (fun x y => y ≤ x) 74 47), (47, s_aload 0 48), (48, s_getf 3 0 51), (51, s_aload 0 52), (52, s_getf 3 3 55), (55, s_iload 2 56), (56, s_bin (fun x y => x + y) 57), (57, s_iald 58), (58, s_aload 1 59), (59, s_iload 2 60), (60, s_invT mJ0_charAt_5068e 1 63), (63, s_icmp (fun x y => x = y) 68 66), (66, s_pushi 0 67), (67, s_zret), (68, s_iinc 2 1 71), (71, s_goto 39), (74, s_pushi 1 75), (75, s_zret)]
set_option maxRecDepth 20000 in
theorem zX3_isWord : ∀ q ∈ kX3_isWord, Snd RX3 cX3_isWord 3 (some .boolean) (rmM mX3_isWord) q.1 q.2 :=
  fm (z_aload_n (j := 0) (by decide +kernel) rfl) (
  fm (z_getf (idx := 32) awX3 rfl (by decide) wd_1_109 rfl (by decide +kernel)) (
  fm (z_iconst (n := 1) (by decide +kernel) (by decide)) (
  fm (z_icmp_ne (off := 30) (by decide +kernel) (by decide)) (
  fm (z_aload_n (j := 0) (by decide +kernel) rfl) (
  fm (z_getf (idx := 19) awX3 rfl (by decide) wd_1_111 rfl (by decide +kernel)) (
  fm (z_aload_n (j := 0) (by decide +kernel) rfl) (
  fm (z_getf (idx := 15) awX3 rfl (by decide) wd_1_107 rfl (by decide +kernel)) (
  fm (z_icmp_gt (off := 19) (by decide +kernel) (by decide)) (
  fm (z_aload_n (j := 1) (by decide +kernel) rfl) (
  fm (z_invT (idx := 119) (by decide +kernel) wd_3_62 wd_3_63 wd_3_64 wd_1_10 wd_3_65 (by decide +kernel) ⟨Nat.le_of_ble_eq_true rfl, Nat.le_of_ble_eq_true rfl⟩) (
  fm (z_aload_n (j := 0) (by decide +kernel) rfl) (
  fm (z_getf (idx := 19) awX3 rfl (by decide) wd_1_111 rfl (by decide +kernel)) (
  fm (z_aload_n (j := 0) (by decide +kernel) rfl) (
  fm (z_getf (idx := 29) awX3 rfl (by decide) wd_1_110 rfl (by decide +kernel)) (
  fm (z_isub (by decide +kernel)) (
  fm (z_icmp_eq (off := 5) (by decide +kernel) (by decide)) (
  fm (z_iconst (n := 0) (by decide +kernel) (by decide)) (
  fm (z_zret rfl (by decide +kernel)) (
  fm (z_iconst (n := 0) (by decide +kernel) (by decide)) (
  fm (z_istore_n (j := 2) (by decide +kernel) rfl (by decide)) (
  fm (z_iload_n (j := 2) (by decide +kernel) rfl) (
  fm (z_aload_n (j := 1) (by decide +kernel) rfl) (
  fm (z_invT (idx := 119) (by decide +kernel) wd_3_62 wd_3_63 wd_3_64 wd_1_10 wd_3_65 (by decide +kernel) ⟨Nat.le_of_ble_eq_true rfl, Nat.le_of_ble_eq_true rfl⟩) (
  fm (z_icmp_ge (off := 30) (by decide +kernel) (by decide)) (
  fm (z_aload_n (j := 0) (by decide +kernel) rfl) (
  fm (z_getf (idx := 9) awX3 rfl (by decide) wd_1_106 rfl (by decide +kernel)) (
  fm (z_aload_n (j := 0) (by decide +kernel) rfl) (
  fm (z_getf (idx := 29) awX3 rfl (by decide) wd_1_110 rfl (by decide +kernel)) (
  fm (z_iload_n (j := 2) (by decide +kernel) rfl) (
  fm (z_iadd (by decide +kernel)) (
  fm (z_iald (by decide +kernel)) (
  fm (z_aload_n (j := 1) (by decide +kernel) rfl) (
  fm (z_iload_n (j := 2) (by decide +kernel) rfl) (
  fm (z_invT (idx := 123) (by decide +kernel) wd_3_72 wd_3_73 wd_3_74 wd_1_10 wd_3_75 (by decide +kernel) ⟨Nat.le_of_ble_eq_true rfl, Nat.le_of_ble_eq_true rfl⟩) (
  fm (z_icmp_eq (off := 5) (by decide +kernel) (by decide)) (
  fm (z_iconst (n := 0) (by decide +kernel) (by decide)) (
  fm (z_zret rfl (by decide +kernel)) (
  fm (z_iinc (n := 1) (by decide +kernel) (by decide) (by decide)) (
  fm (z_goto (off := (-32)) (by decide +kernel) (by decide)) (
  fm (z_iconst (n := 1) (by decide +kernel) (by decide)) (
  fm (z_zret rfl (by decide +kernel)) (fn))))))))))))))))))))))))))))))))))))))))))
def kX3_kindOfWord : Cd := [(0, s_pushi 0 1), (1, s_istore 1 2), (2, s_iload 1 3), (3, s_pushi 7 5), (5, s_icmp (fun x y => y ≤ x) 27 8), (8, s_aload 0 9), (9, s_iload 1 10), (10, s_invS mX3_wordOfKind 1 13), (13, s_inv mX3_isWord 3 1 16), (16, s_if (fun x => x = 0) 21 19), (19, s_iload 1 20), (20, s_iret), (21, s_iinc 1 1 24), (24, s_goto 2), (27, s_pushi (-1) 28), (28, s_iret)]
set_option maxRecDepth 20000 in
theorem zX3_kindOfWord : ∀ q ∈ kX3_kindOfWord, Snd RX3 cX3_kindOfWord 2 (some .int) (rmM mX3_kindOfWord) q.1 q.2 :=
  fm (z_iconst (n := 0) (by decide +kernel) (by decide)) (
  fm (z_istore_n (j := 1) (by decide +kernel) rfl (by decide)) (
  fm (z_iload_n (j := 1) (by decide +kernel) rfl) (
  fm (z_bipush (n := 7) (by decide +kernel) (by decide)) (
  fm (z_icmp_ge (off := 22) (by decide +kernel) (by decide)) (
  fm (z_aload_n (j := 0) (by decide +kernel) rfl) (
  fm (z_iload_n (j := 1) (by decide +kernel) rfl) (
  fm (z_invS (idx := 115) (by decide +kernel) wd_3_48 wd_3_49 wd_1_5 wd_3_50 (by decide +kernel) ⟨Nat.le_of_ble_eq_true rfl, Nat.le_of_ble_eq_true rfl⟩) (
  fm (z_inv (idx := 59) rfl (by decide +kernel) wd_3_58 wd_3_60 ws_19 wd_1_5 wd_3_61 (by decide +kernel) ⟨Nat.le_of_ble_eq_true rfl, Nat.le_of_ble_eq_true rfl⟩) (
  fm (z_if_eq (off := 5) (by decide +kernel) (by decide)) (
  fm (z_iload_n (j := 1) (by decide +kernel) rfl) (
  fm (z_iret rfl (by decide +kernel)) (
  fm (z_iinc (n := 1) (by decide +kernel) (by decide) (by decide)) (
  fm (z_goto (off := (-22)) (by decide +kernel) (by decide)) (
  fm (z_iconst (n := (-1)) (by decide +kernel) (by decide)) (
  fm (z_iret rfl (by decide +kernel)) (fn))))))))))))))))
def kX3_put : Cd := [(0, s_aload 0 1), (1, s_getf 3 1 4), (4, s_pushi 120 6), (6, s_icmp (fun x y => y ≤ x) 29 9), (9, s_aload 0 10), (10, s_getf 3 0 13), (13, s_aload 0 14), (14, s_getf 3 1 17), (17, s_iload 1 18), (18, s_iast 19), (19, s_aload 0 20), (20, s_dup 21), (21, s_getf 3 1 24), (24, s_pushi 1 25), (25, s_bin (fun x y => x + y) 26), (26, s_putf .int 3 1 29), (29, s_vret)]
set_option maxRecDepth 20000 in
theorem zX3_put : ∀ q ∈ kX3_put, Snd RX3 cX3_put 2 none (rmM mX3_put) q.1 q.2 :=
  fm (z_aload_n (j := 0) (by decide +kernel) rfl) (
  fm (z_getf (idx := 15) awX3 rfl (by decide) wd_1_107 rfl (by decide +kernel)) (
  fm (z_bipush (n := 120) (by decide +kernel) (by decide)) (
  fm (z_icmp_ge (off := 23) (by decide +kernel) (by decide)) (
  fm (z_aload_n (j := 0) (by decide +kernel) rfl) (
  fm (z_getf (idx := 9) awX3 rfl (by decide) wd_1_106 rfl (by decide +kernel)) (
  fm (z_aload_n (j := 0) (by decide +kernel) rfl) (
  fm (z_getf (idx := 15) awX3 rfl (by decide) wd_1_107 rfl (by decide +kernel)) (
  fm (z_iload_n (j := 1) (by decide +kernel) rfl) (
  fm (z_iast (by decide +kernel)) (
  fm (z_aload_n (j := 0) (by decide +kernel) rfl) (
  fm (z_dup (by decide +kernel)) (
  fm (z_getf (idx := 15) awX3 rfl (by decide) wd_1_107 rfl (by decide +kernel)) (
  fm (z_iconst (n := 1) (by decide +kernel) (by decide)) (
  fm (z_iadd (by decide +kernel)) (
  fm (z_putf (idx := 15) tyX3 tyX3_ok nmX3 awX3 rfl (by decide) wd_1_107 rfl rfl (by decide +kernel) (by decide +kernel)) (
  fm (z_vret rfl (by decide +kernel)) (fn)))))))))))))))))
def kX3_readItem : Cd := [(0, s_aload 0 1), (1, s_inv mX3_kindOfWord 3 0 4), (4, s_istore 2 5), (5, s_iload 2 6), (6, s_if (fun x => x < 0) 16 9), (9, s_aload 0 10), (10, s_aload 1 11), (11, s_iload 2 12), (12, s_inv mX3_readStall 3 2 15), (15, s_zret), (16, s_aload 0 17), (17, s_ldcs 9 19), (19, s_inv mX3_isWord 3 1 22), (22, s_if (fun x => x = 0) 31 25), (25, s_aload 0 26), (26, s_aload 1 27), (27, s_inv mX3_readVisits 3 1 30), (30, s_zret), (31, s_aload 0 32), (32, s_ldcs 12 34), (34, s_inv mX3_isWord 3 1 37), (37, s_if (fun x => x = 0) 47 40), (40, s_aload 0 41), (41, s_aload 1 42), (42, s_pushi 1 43), (43, s_inv mX3_readShade 3 2 46), (46, s_zret), (47, s_aload 0 48), (48, s_ldcs 13 50), (50, s_inv mX3_isWord 3 1 53), (53, s_if (fun x => x = 0) 63 56), (56, s_aload 0 57), (57, s_aload 1 58), (58, s_pushi 0 59), (59, s_inv mX3_readShade 3 2 62), (62, s_zret), (63, s_aload 0 64), (64, s_ldcs 14 66), (66, s_inv mX3_isWord 3 1 69), (69, s_if (fun x => x = 0) 84 72), (72, s_aload 0 73), (73, s_aload 1 74), (74, s_inv mX3_readSpring 3 1 77), (77, s_if (fun x => x = 0) 84 80), (80, s_pushi 1 81), (81, s_goto 85), (84, s_pushi 0 85), (85, s_zret)]
set_option maxRecDepth 20000 in
theorem zX3_readItem : ∀ q ∈ kX3_readItem, Snd RX3 cX3_readItem 3 (some .boolean) (rmM mX3_readItem) q.1 q.2 :=
  fm (z_aload_n (j := 0) (by decide +kernel) rfl) (
  fm (z_inv (idx := 50) rfl (by decide +kernel) wd_3_44 wd_3_46 ws_18 wd_1_5 wd_3_47 (by decide +kernel) ⟨Nat.le_of_ble_eq_true rfl, Nat.le_of_ble_eq_true rfl⟩) (
  fm (z_istore_n (j := 2) (by decide +kernel) rfl (by decide)) (
  fm (z_iload_n (j := 2) (by decide +kernel) rfl) (
  fm (z_if_lt (off := 10) (by decide +kernel) (by decide)) (
  fm (z_aload_n (j := 0) (by decide +kernel) rfl) (
  fm (z_aload_n (j := 1) (by decide +kernel) rfl) (
  fm (z_iload_n (j := 2) (by decide +kernel) rfl) (
  fm (z_inv (idx := 53) rfl (by decide +kernel) wd_3_110 wd_3_112 ws_20 wd_1_5 wd_3_113 (by decide +kernel) ⟨Nat.le_of_ble_eq_true rfl, Nat.le_of_ble_eq_true rfl⟩) (
  fm (z_zret rfl (by decide +kernel)) (
  fm (z_aload_n (j := 0) (by decide +kernel) rfl) (
  fm (z_ldcs (i := 9) (idx := 57) (by decide) rfl (by decide +kernel)) (
  fm (z_inv (idx := 59) rfl (by decide +kernel) wd_3_58 wd_3_60 ws_19 wd_1_5 wd_3_61 (by decide +kernel) ⟨Nat.le_of_ble_eq_true rfl, Nat.le_of_ble_eq_true rfl⟩) (
  fm (z_if_eq (off := 9) (by decide +kernel) (by decide)) (
  fm (z_aload_n (j := 0) (by decide +kernel) rfl) (
  fm (z_aload_n (j := 1) (by decide +kernel) rfl) (
  fm (z_inv (idx := 63) rfl (by decide +kernel) wd_3_123 wd_3_125 ws_22 wd_1_5 wd_3_126 (by decide +kernel) ⟨Nat.le_of_ble_eq_true rfl, Nat.le_of_ble_eq_true rfl⟩) (
  fm (z_zret rfl (by decide +kernel)) (
  fm (z_aload_n (j := 0) (by decide +kernel) rfl) (
  fm (z_ldcs (i := 12) (idx := 66) (by decide) rfl (by decide +kernel)) (
  fm (z_inv (idx := 59) rfl (by decide +kernel) wd_3_58 wd_3_60 ws_19 wd_1_5 wd_3_61 (by decide +kernel) ⟨Nat.le_of_ble_eq_true rfl, Nat.le_of_ble_eq_true rfl⟩) (
  fm (z_if_eq (off := 10) (by decide +kernel) (by decide)) (
  fm (z_aload_n (j := 0) (by decide +kernel) rfl) (
  fm (z_aload_n (j := 1) (by decide +kernel) rfl) (
  fm (z_iconst (n := 1) (by decide +kernel) (by decide)) (
  fm (z_inv (idx := 68) rfl (by decide +kernel) wd_3_130 wd_3_132 ws_23 wd_1_5 wd_3_133 (by decide +kernel) ⟨Nat.le_of_ble_eq_true rfl, Nat.le_of_ble_eq_true rfl⟩) (
  fm (z_zret rfl (by decide +kernel)) (
  fm (z_aload_n (j := 0) (by decide +kernel) rfl) (
  fm (z_ldcs (i := 13) (idx := 71) (by decide) rfl (by decide +kernel)) (
  fm (z_inv (idx := 59) rfl (by decide +kernel) wd_3_58 wd_3_60 ws_19 wd_1_5 wd_3_61 (by decide +kernel) ⟨Nat.le_of_ble_eq_true rfl, Nat.le_of_ble_eq_true rfl⟩) (
  fm (z_if_eq (off := 10) (by decide +kernel) (by decide)) (
  fm (z_aload_n (j := 0) (by decide +kernel) rfl) (
  fm (z_aload_n (j := 1) (by decide +kernel) rfl) (
  fm (z_iconst (n := 0) (by decide +kernel) (by decide)) (
  fm (z_inv (idx := 68) rfl (by decide +kernel) wd_3_130 wd_3_132 ws_23 wd_1_5 wd_3_133 (by decide +kernel) ⟨Nat.le_of_ble_eq_true rfl, Nat.le_of_ble_eq_true rfl⟩) (
  fm (z_zret rfl (by decide +kernel)) (
  fm (z_aload_n (j := 0) (by decide +kernel) rfl) (
  fm (z_ldcs (i := 14) (idx := 73) (by decide) rfl (by decide +kernel)) (
  fm (z_inv (idx := 59) rfl (by decide +kernel) wd_3_58 wd_3_60 ws_19 wd_1_5 wd_3_61 (by decide +kernel) ⟨Nat.le_of_ble_eq_true rfl, Nat.le_of_ble_eq_true rfl⟩) (
  fm (z_if_eq (off := 15) (by decide +kernel) (by decide)) (
  fm (z_aload_n (j := 0) (by decide +kernel) rfl) (
  fm (z_aload_n (j := 1) (by decide +kernel) rfl) (
  fm (z_inv (idx := 75) rfl (by decide +kernel) wd_3_136 wd_3_138 ws_24 wd_1_5 wd_3_139 (by decide +kernel) ⟨Nat.le_of_ble_eq_true rfl, Nat.le_of_ble_eq_true rfl⟩) (
  fm (z_if_eq (off := 7) (by decide +kernel) (by decide)) (
  fm (z_iconst (n := 1) (by decide +kernel) (by decide)) (
  fm (z_goto (off := 4) (by decide +kernel) (by decide)) (
  fm (z_iconst (n := 0) (by decide +kernel) (by decide)) (
  fm (z_zret rfl (by decide +kernel)) (fn))))))))))))))))))))))))))))))))))))))))))))))))
def kX3_readOn : Cd := [(0, s_aload 0 1), (1, s_aload 0 2), (2, s_getf 3 4 5), (5, s_putf .int 3 3 8), (8, s_aload 0 9), (9, s_getf 3 3 12), (12, s_aload 0 13), (13, s_getf 3 1 16), (16, s_icmp (fun x y => y ≤ x) 47 19), (19, s_aload 0 20), (20, s_aload 0 21), (21, s_getf 3 3 24), (24, s_pushi 32 26), (26, s_pushi 32 28), (28, s_inv mX3_isBetween 3 3 31), (31, s_if (fun x => x = 0) 47 34), (34, s_aload 0 35), (35, s_dup 36), (36, s_getf 3 3 39), (39, s_pushi 1 40), (40, s_bin (fun x y => x + y) 41), (41, s_putf .int 3 3 44), (44, s_goto 8), (47, s_aload 0 48), (48, s_aload 0 49), (49, s_getf 3 3 52), (52, s_putf .int 3 4 55), (55, s_aload 0 56), (56, s_getf 3 3 59), (59, s_aload 0 60), (60, s_getf 3 1 63), (63, s_icmp (fun x y => x < y) 74 66), (66, s_aload 0 67), (67, s_pushi 0 68), (68, s_putf .int 3 2 71), (71, s_goto 178), (74, s_aload 0 75), (75, s_aload 0 76), (76, s_getf 3 3 79), (79, s_pushi 97 81), (81, s_pushi 122 83), (83, s_inv mX3_isBetween 3 3 86), (86, s_if (fun x => x = 0) 105 89), (89, s_aload 0 90), (90, s_pushi 1 91), (91, s_putf .int 3 2 94), (94, s_aload 0 95), (95, s_pushi 97 97), (97, s_pushi 122 99), (99, s_inv mX3_readRun 3 2 102), (102, s_goto 178), (105, s_aload 0 106), (106, s_aload 0 107), (107, s_getf 3 3 110), (110, s_pushi 48 112), (112, s_pushi 57 114), (114, s_inv mX3_isBetween 3 3 117), (117, s_if (fun x => x = 0) 144 120), (120, s_aload 0 121), (121, s_pushi 2 122), (122, s_putf .int 3 2 125), (125, s_aload 0 126), (126, s_pushi 48 128), (128, s_pushi 57 130), (130, s_inv mX3_readRun 3 2 133), (133, s_aload 0 134), (134, s_aload 0 135), (135, s_inv mX3_valueOfRun 3 0 138), (138, s_putf .int 3 5 141), (141, s_goto 178), (144, s_aload 0 145), (145, s_aload 0 146), (146, s_aload 0 147), (147, s_getf 3 3 150), (150, s_pushi 59 152), (152, s_pushi 59 154), (154, s_inv mX3_isBetween 3 3 157), (157, s_if (fun x => x = 0) 164 160), (160, s_pushi 3 161), (161, s_goto 165), (164, s_pushi 4 165), (165, s_putf .int 3 2 168), (168, s_aload 0 169), (169, s_aload 0 170), (170, s_getf 3 3 173), (173, s_pushi 1 174), (174, s_bin (fun x y => x + y) 175), (175, s_putf .int 3 4 178), (178, s_vret)]
set_option maxRecDepth 20000 in
theorem zX3_readOn : ∀ q ∈ kX3_readOn, Snd RX3 cX3_readOn 1 none (rmM mX3_readOn) q.1 q.2 :=
  fm (z_aload_n (j := 0) (by decide +kernel) rfl) (
  fm (z_aload_n (j := 0) (by decide +kernel) rfl) (
  fm (z_getf (idx := 19) awX3 rfl (by decide) wd_1_111 rfl (by decide +kernel)) (
  fm (z_putf (idx := 29) tyX3 tyX3_ok nmX3 awX3 rfl (by decide) wd_1_110 rfl rfl (by decide +kernel) (by decide +kernel)) (
  fm (z_aload_n (j := 0) (by decide +kernel) rfl) (
  fm (z_getf (idx := 29) awX3 rfl (by decide) wd_1_110 rfl (by decide +kernel)) (
  fm (z_aload_n (j := 0) (by decide +kernel) rfl) (
  fm (z_getf (idx := 15) awX3 rfl (by decide) wd_1_107 rfl (by decide +kernel)) (
  fm (z_icmp_ge (off := 31) (by decide +kernel) (by decide)) (
  fm (z_aload_n (j := 0) (by decide +kernel) rfl) (
  fm (z_aload_n (j := 0) (by decide +kernel) rfl) (
  fm (z_getf (idx := 29) awX3 rfl (by decide) wd_1_110 rfl (by decide +kernel)) (
  fm (z_bipush (n := 32) (by decide +kernel) (by decide)) (
  fm (z_bipush (n := 32) (by decide +kernel) (by decide)) (
  fm (z_inv (idx := 35) rfl (by decide +kernel) wd_3_28 wd_3_30 ws_14 wd_1_5 wd_3_31 (by decide +kernel) ⟨Nat.le_of_ble_eq_true rfl, Nat.le_of_ble_eq_true rfl⟩) (
  fm (z_if_eq (off := 16) (by decide +kernel) (by decide)) (
  fm (z_aload_n (j := 0) (by decide +kernel) rfl) (
  fm (z_dup (by decide +kernel)) (
  fm (z_getf (idx := 29) awX3 rfl (by decide) wd_1_110 rfl (by decide +kernel)) (
  fm (z_iconst (n := 1) (by decide +kernel) (by decide)) (
  fm (z_iadd (by decide +kernel)) (
  fm (z_putf (idx := 29) tyX3 tyX3_ok nmX3 awX3 rfl (by decide) wd_1_110 rfl rfl (by decide +kernel) (by decide +kernel)) (
  fm (z_goto (off := (-36)) (by decide +kernel) (by decide)) (
  fm (z_aload_n (j := 0) (by decide +kernel) rfl) (
  fm (z_aload_n (j := 0) (by decide +kernel) rfl) (
  fm (z_getf (idx := 29) awX3 rfl (by decide) wd_1_110 rfl (by decide +kernel)) (
  fm (z_putf (idx := 19) tyX3 tyX3_ok nmX3 awX3 rfl (by decide) wd_1_111 rfl rfl (by decide +kernel) (by decide +kernel)) (
  fm (z_aload_n (j := 0) (by decide +kernel) rfl) (
  fm (z_getf (idx := 29) awX3 rfl (by decide) wd_1_110 rfl (by decide +kernel)) (
  fm (z_aload_n (j := 0) (by decide +kernel) rfl) (
  fm (z_getf (idx := 15) awX3 rfl (by decide) wd_1_107 rfl (by decide +kernel)) (
  fm (z_icmp_lt (off := 11) (by decide +kernel) (by decide)) (
  fm (z_aload_n (j := 0) (by decide +kernel) rfl) (
  fm (z_iconst (n := 0) (by decide +kernel) (by decide)) (
  fm (z_putf (idx := 32) tyX3 tyX3_ok nmX3 awX3 rfl (by decide) wd_1_109 rfl rfl (by decide +kernel) (by decide +kernel)) (
  fm (z_goto (off := 107) (by decide +kernel) (by decide)) (
  fm (z_aload_n (j := 0) (by decide +kernel) rfl) (
  fm (z_aload_n (j := 0) (by decide +kernel) rfl) (
  fm (z_getf (idx := 29) awX3 rfl (by decide) wd_1_110 rfl (by decide +kernel)) (
  fm (z_bipush (n := 97) (by decide +kernel) (by decide)) (
  fm (z_bipush (n := 122) (by decide +kernel) (by decide)) (
  fm (z_inv (idx := 35) rfl (by decide +kernel) wd_3_28 wd_3_30 ws_14 wd_1_5 wd_3_31 (by decide +kernel) ⟨Nat.le_of_ble_eq_true rfl, Nat.le_of_ble_eq_true rfl⟩) (
  fm (z_if_eq (off := 19) (by decide +kernel) (by decide)) (
  fm (z_aload_n (j := 0) (by decide +kernel) rfl) (
  fm (z_iconst (n := 1) (by decide +kernel) (by decide)) (
  fm (z_putf (idx := 32) tyX3 tyX3_ok nmX3 awX3 rfl (by decide) wd_1_109 rfl rfl (by decide +kernel) (by decide +kernel)) (
  fm (z_aload_n (j := 0) (by decide +kernel) rfl) (
  fm (z_bipush (n := 97) (by decide +kernel) (by decide)) (
  fm (z_bipush (n := 122) (by decide +kernel) (by decide)) (
  fm (z_inv (idx := 39) rfl (by decide +kernel) wd_3_32 wd_3_34 ws_15 wd_1_5 wd_3_35 (by decide +kernel) ⟨Nat.le_of_ble_eq_true rfl, Nat.le_of_ble_eq_true rfl⟩) (
  fm (z_goto (off := 76) (by decide +kernel) (by decide)) (
  fm (z_aload_n (j := 0) (by decide +kernel) rfl) (
  fm (z_aload_n (j := 0) (by decide +kernel) rfl) (
  fm (z_getf (idx := 29) awX3 rfl (by decide) wd_1_110 rfl (by decide +kernel)) (
  fm (z_bipush (n := 48) (by decide +kernel) (by decide)) (
  fm (z_bipush (n := 57) (by decide +kernel) (by decide)) (
  fm (z_inv (idx := 35) rfl (by decide +kernel) wd_3_28 wd_3_30 ws_14 wd_1_5 wd_3_31 (by decide +kernel) ⟨Nat.le_of_ble_eq_true rfl, Nat.le_of_ble_eq_true rfl⟩) (
  fm (z_if_eq (off := 27) (by decide +kernel) (by decide)) (
  fm (z_aload_n (j := 0) (by decide +kernel) rfl) (
  fm (z_iconst (n := 2) (by decide +kernel) (by decide)) (
  fm (z_putf (idx := 32) tyX3 tyX3_ok nmX3 awX3 rfl (by decide) wd_1_109 rfl rfl (by decide +kernel) (by decide +kernel)) (
  fm (z_aload_n (j := 0) (by decide +kernel) rfl) (
  fm (z_bipush (n := 48) (by decide +kernel) (by decide)) (
  fm (z_bipush (n := 57) (by decide +kernel) (by decide)) (
  fm (z_inv (idx := 39) rfl (by decide +kernel) wd_3_32 wd_3_34 ws_15 wd_1_5 wd_3_35 (by decide +kernel) ⟨Nat.le_of_ble_eq_true rfl, Nat.le_of_ble_eq_true rfl⟩) (
  fm (z_aload_n (j := 0) (by decide +kernel) rfl) (
  fm (z_aload_n (j := 0) (by decide +kernel) rfl) (
  fm (z_inv (idx := 43) rfl (by decide +kernel) wd_3_36 wd_3_38 ws_16 wd_1_5 wd_3_39 (by decide +kernel) ⟨Nat.le_of_ble_eq_true rfl, Nat.le_of_ble_eq_true rfl⟩) (
  fm (z_putf (idx := 47) tyX3 tyX3_ok nmX3 awX3 rfl (by decide) wd_1_112 rfl rfl (by decide +kernel) (by decide +kernel)) (
  fm (z_goto (off := 37) (by decide +kernel) (by decide)) (
  fm (z_aload_n (j := 0) (by decide +kernel) rfl) (
  fm (z_aload_n (j := 0) (by decide +kernel) rfl) (
  fm (z_aload_n (j := 0) (by decide +kernel) rfl) (
  fm (z_getf (idx := 29) awX3 rfl (by decide) wd_1_110 rfl (by decide +kernel)) (
  fm (z_bipush (n := 59) (by decide +kernel) (by decide)) (
  fm (z_bipush (n := 59) (by decide +kernel) (by decide)) (
  fm (z_inv (idx := 35) rfl (by decide +kernel) wd_3_28 wd_3_30 ws_14 wd_1_5 wd_3_31 (by decide +kernel) ⟨Nat.le_of_ble_eq_true rfl, Nat.le_of_ble_eq_true rfl⟩) (
  fm (z_if_eq (off := 7) (by decide +kernel) (by decide)) (
  fm (z_iconst (n := 3) (by decide +kernel) (by decide)) (
  fm (z_goto (off := 4) (by decide +kernel) (by decide)) (
  fm (z_iconst (n := 4) (by decide +kernel) (by decide)) (
  fm (z_putf (idx := 32) tyX3 tyX3_ok nmX3 awX3 rfl (by decide) wd_1_109 rfl rfl (by decide +kernel) (by decide +kernel)) (
  fm (z_aload_n (j := 0) (by decide +kernel) rfl) (
  fm (z_aload_n (j := 0) (by decide +kernel) rfl) (
  fm (z_getf (idx := 29) awX3 rfl (by decide) wd_1_110 rfl (by decide +kernel)) (
  fm (z_iconst (n := 1) (by decide +kernel) (by decide)) (
  fm (z_iadd (by decide +kernel)) (
  fm (z_putf (idx := 19) tyX3 tyX3_ok nmX3 awX3 rfl (by decide) wd_1_111 rfl rfl (by decide +kernel) (by decide +kernel)) (
  fm (z_vret rfl (by decide +kernel)) (fn)))))))))))))))))))))))))))))))))))))))))))))))))))))))))))))))))))))))))))))))))))))))))
def kX3_readRun : Cd := [(0, s_aload 0 1), (1, s_getf 3 4 4), (4, s_aload 0 5), (5, s_getf 3 1 8), (8, s_icmp (fun x y => y ≤ x) 37 11), (11, s_aload 0 12), (12, s_aload 0 13), (13, s_getf 3 4 16), (16, s_iload 1 17), (17, s_iload 2 18), (18, s_inv mX3_isBetween 3 3 21), (21, s_if (fun x => x = 0) 37 24), (24, s_aload 0 25), (25, s_dup 26), (26, s_getf 3 4 29), (29, s_pushi 1 30), (30, s_bin (fun x y => x + y) 31), (31, s_putf .int 3 4 34), (34, s_goto 0), (37, s_vret)]
set_option maxRecDepth 20000 in
theorem zX3_readRun : ∀ q ∈ kX3_readRun, Snd RX3 cX3_readRun 3 none (rmM mX3_readRun) q.1 q.2 :=
  fm (z_aload_n (j := 0) (by decide +kernel) rfl) (
  fm (z_getf (idx := 19) awX3 rfl (by decide) wd_1_111 rfl (by decide +kernel)) (
  fm (z_aload_n (j := 0) (by decide +kernel) rfl) (
  fm (z_getf (idx := 15) awX3 rfl (by decide) wd_1_107 rfl (by decide +kernel)) (
  fm (z_icmp_ge (off := 29) (by decide +kernel) (by decide)) (
  fm (z_aload_n (j := 0) (by decide +kernel) rfl) (
  fm (z_aload_n (j := 0) (by decide +kernel) rfl) (
  fm (z_getf (idx := 19) awX3 rfl (by decide) wd_1_111 rfl (by decide +kernel)) (
  fm (z_iload_n (j := 1) (by decide +kernel) rfl) (
  fm (z_iload_n (j := 2) (by decide +kernel) rfl) (
  fm (z_inv (idx := 35) rfl (by decide +kernel) wd_3_28 wd_3_30 ws_14 wd_1_5 wd_3_31 (by decide +kernel) ⟨Nat.le_of_ble_eq_true rfl, Nat.le_of_ble_eq_true rfl⟩) (
  fm (z_if_eq (off := 16) (by decide +kernel) (by decide)) (
  fm (z_aload_n (j := 0) (by decide +kernel) rfl) (
  fm (z_dup (by decide +kernel)) (
  fm (z_getf (idx := 19) awX3 rfl (by decide) wd_1_111 rfl (by decide +kernel)) (
  fm (z_iconst (n := 1) (by decide +kernel) (by decide)) (
  fm (z_iadd (by decide +kernel)) (
  fm (z_putf (idx := 19) tyX3 tyX3_ok nmX3 awX3 rfl (by decide) wd_1_111 rfl rfl (by decide +kernel) (by decide +kernel)) (
  fm (z_goto (off := (-34)) (by decide +kernel) (by decide)) (
  fm (z_vret rfl (by decide +kernel)) (fn))))))))))))))))))))
def kX3_readShade : Cd := [(0, s_aload 0 1), (1, s_inv mX3_readOn 3 0 4), (4, s_aload 0 5), (5, s_pushi 0 6), (6, s_pushi 11 8), (8, s_inv mX3_isNumber 3 2 11), (11, s_if (fun x => x = 0) 14 16), (14, s_pushi 0 15), (15, s_zret), (16, s_aload 1 17), (17, s_getf 2 1 20), (20, s_aload 0 21), (21, s_getf 3 5 24), (24, s_iload 2 25), (25, s_iast 26), (26, s_aload 0 27), (27, s_inv mX3_readOn 3 0 30), (30, s_pushi 1 31), (31, s_zret)]
set_option maxRecDepth 20000 in
theorem zX3_readShade : ∀ q ∈ kX3_readShade, Snd RX3 cX3_readShade 3 (some .boolean) (rmM mX3_readShade) q.1 q.2 :=
  fm (z_aload_n (j := 0) (by decide +kernel) rfl) (
  fm (z_inv (idx := 22) rfl (by decide +kernel) wd_3_24 wd_3_26 ws_13 wd_1_5 wd_3_27 (by decide +kernel) ⟨Nat.le_of_ble_eq_true rfl, Nat.le_of_ble_eq_true rfl⟩) (
  fm (z_aload_n (j := 0) (by decide +kernel) rfl) (
  fm (z_iconst (n := 0) (by decide +kernel) (by decide)) (
  fm (z_bipush (n := 11) (by decide +kernel) (by decide)) (
  fm (z_inv (idx := 85) rfl (by decide +kernel) wd_3_115 wd_3_117 ws_21 wd_1_5 wd_3_118 (by decide +kernel) ⟨Nat.le_of_ble_eq_true rfl, Nat.le_of_ble_eq_true rfl⟩) (
  fm (z_if_ne (off := 5) (by decide +kernel) (by decide)) (
  fm (z_iconst (n := 0) (by decide +kernel) (by decide)) (
  fm (z_zret rfl (by decide +kernel)) (
  fm (z_aload_n (j := 1) (by decide +kernel) rfl) (
  fm (z_getf (idx := 109) awX2 rfl (by decide) wd_1_36 rfl (by decide +kernel)) (
  fm (z_aload_n (j := 0) (by decide +kernel) rfl) (
  fm (z_getf (idx := 47) awX3 rfl (by decide) wd_1_112 rfl (by decide +kernel)) (
  fm (z_iload_n (j := 2) (by decide +kernel) rfl) (
  fm (z_iast (by decide +kernel)) (
  fm (z_aload_n (j := 0) (by decide +kernel) rfl) (
  fm (z_inv (idx := 22) rfl (by decide +kernel) wd_3_24 wd_3_26 ws_13 wd_1_5 wd_3_27 (by decide +kernel) ⟨Nat.le_of_ble_eq_true rfl, Nat.le_of_ble_eq_true rfl⟩) (
  fm (z_iconst (n := 1) (by decide +kernel) (by decide)) (
  fm (z_zret rfl (by decide +kernel)) (fn)))))))))))))))))))
def kX3_readSpring : Cd := [(0, s_aload 0 1), (1, s_inv mX3_readOn 3 0 4), (4, s_aload 0 5), (5, s_pushi 0 6), (6, s_pushi 11 8), (8, s_inv mX3_isNumber 3 2 11), (11, s_if (fun x => x = 0) 14 16), (14, s_pushi 0 15), (15, s_zret), (16, s_aload 1 17), (17, s_aload 0 18), (18, s_getf 3 5 21), (21, s_putf .int 2 8 24), (24, s_aload 0 25), (25, s_inv mX3_readOn 3 0 28), (28, s_pushi 1 29), (29, s_zret)]
set_option maxRecDepth 20000 in
theorem zX3_readSpring : ∀ q ∈ kX3_readSpring, Snd RX3 cX3_readSpring 2 (some .boolean) (rmM mX3_readSpring) q.1 q.2 :=
  fm (z_aload_n (j := 0) (by decide +kernel) rfl) (
  fm (z_inv (idx := 22) rfl (by decide +kernel) wd_3_24 wd_3_26 ws_13 wd_1_5 wd_3_27 (by decide +kernel) ⟨Nat.le_of_ble_eq_true rfl, Nat.le_of_ble_eq_true rfl⟩) (
  fm (z_aload_n (j := 0) (by decide +kernel) rfl) (
  fm (z_iconst (n := 0) (by decide +kernel) (by decide)) (
  fm (z_bipush (n := 11) (by decide +kernel) (by decide)) (
  fm (z_inv (idx := 85) rfl (by decide +kernel) wd_3_115 wd_3_117 ws_21 wd_1_5 wd_3_118 (by decide +kernel) ⟨Nat.le_of_ble_eq_true rfl, Nat.le_of_ble_eq_true rfl⟩) (
  fm (z_if_ne (off := 5) (by decide +kernel) (by decide)) (
  fm (z_iconst (n := 0) (by decide +kernel) (by decide)) (
  fm (z_zret rfl (by decide +kernel)) (
  fm (z_aload_n (j := 1) (by decide +kernel) rfl) (
  fm (z_aload_n (j := 0) (by decide +kernel) rfl) (
  fm (z_getf (idx := 47) awX3 rfl (by decide) wd_1_112 rfl (by decide +kernel)) (
  fm (z_putf (idx := 112) tyX2 tyX2_ok nmX2 awX2 rfl (by decide) wd_1_52 rfl rfl (by decide +kernel) (by decide +kernel)) (
  fm (z_aload_n (j := 0) (by decide +kernel) rfl) (
  fm (z_inv (idx := 22) rfl (by decide +kernel) wd_3_24 wd_3_26 ws_13 wd_1_5 wd_3_27 (by decide +kernel) ⟨Nat.le_of_ble_eq_true rfl, Nat.le_of_ble_eq_true rfl⟩) (
  fm (z_iconst (n := 1) (by decide +kernel) (by decide)) (
  fm (z_zret rfl (by decide +kernel)) (fn)))))))))))))))))
def kX3_readStall : Cd := [(0, s_aload 1 1), (1, s_getf 2 9 4), (4, s_pushi 8 6), (6, s_icmp (fun x y => x < y) 11 9), (9, s_pushi 0 10), (10, s_zret), (11, s_aload 0 12), (12, s_inv mX3_readOn 3 0 15), (15, s_aload 0 16), (16, s_ldcs 7 18), (18, s_inv mX3_isWord 3 1 21), (21, s_if (fun x => x = 0) 24 26), (24, s_pushi 0 25), (25, s_zret), (26, s_aload 0 27), (27, s_inv mX3_readOn 3 0 30), (30, s_aload 0 31), (31, s_pushi 0 32), (32, s_pushi 11 34), (34, s_inv mX3_isNumber 3 2 37), (37, s_if (fun x => x = 0) 51 40), (40, s_aload 1 41), (41, s_aload 0 42), (42, s_getf 3 5 45), (45, s_inv mX2_stallAt 2 1 48), (48, s_if (fun x => x < 0) 53 51), (51, s_pushi 0 52), (52, s_zret), (53, s_aload 1 54), (54, s_iload 2 55), (55, s_aload 0 56), (56, s_getf 3 5 59), (59, s_inv mX2_addStall 2 2 62), (62, s_istore 3 63), (63, s_aload 0 64), (64, s_inv mX3_readOn 3 0 67), (67, s_aload 0 68), (68, s_ldcs 8 70), (70, s_inv mX3_isWord 3 1 73), (73, s_if (fun x => x = 0) 76 78), (76, s_pushi 1 77), (77, s_zret), (78, s_aload 0 79), (79, s_inv mX3_readOn 3 0 82), (82, s_aload 0 83), (83, s_pushi 0 84), (84, s_pushi 99 86), (86, s_inv mX3_isNumber 3 2 89), (89, s_if (fun x => x = 0) 92 94), (92, s_pushi 0 93), (93, s_zret), (94, s_aload 1 95), (95, s_getf 2 4 98), (98, s_iload 3 99), (99, s_aload 0 100), (100, s_getf 3 5 103), (103, s_iast 104), (104, s_aload 0 105), (105, s_inv mX3_readOn 3 0 108), (108, s_pushi 1 109), (109, s_zret)]
set_option maxRecDepth 20000 in
theorem zX3_readStall : ∀ q ∈ kX3_readStall, Snd RX3 cX3_readStall 4 (some .boolean) (rmM mX3_readStall) q.1 q.2 :=
  fm (z_aload_n (j := 1) (by decide +kernel) rfl) (
  fm (z_getf (idx := 78) awX2 rfl (by decide) wd_1_55 rfl (by decide +kernel)) (
  fm (z_bipush (n := 8) (by decide +kernel) (by decide)) (
  fm (z_icmp_lt (off := 5) (by decide +kernel) (by decide)) (
  fm (z_iconst (n := 0) (by decide +kernel) (by decide)) (
  fm (z_zret rfl (by decide +kernel)) (
  fm (z_aload_n (j := 0) (by decide +kernel) rfl) (
  fm (z_inv (idx := 22) rfl (by decide +kernel) wd_3_24 wd_3_26 ws_13 wd_1_5 wd_3_27 (by decide +kernel) ⟨Nat.le_of_ble_eq_true rfl, Nat.le_of_ble_eq_true rfl⟩) (
  fm (z_aload_n (j := 0) (by decide +kernel) rfl) (
  fm (z_ldcs (i := 7) (idx := 83) (by decide) rfl (by decide +kernel)) (
  fm (z_inv (idx := 59) rfl (by decide +kernel) wd_3_58 wd_3_60 ws_19 wd_1_5 wd_3_61 (by decide +kernel) ⟨Nat.le_of_ble_eq_true rfl, Nat.le_of_ble_eq_true rfl⟩) (
  fm (z_if_ne (off := 5) (by decide +kernel) (by decide)) (
  fm (z_iconst (n := 0) (by decide +kernel) (by decide)) (
  fm (z_zret rfl (by decide +kernel)) (
  fm (z_aload_n (j := 0) (by decide +kernel) rfl) (
  fm (z_inv (idx := 22) rfl (by decide +kernel) wd_3_24 wd_3_26 ws_13 wd_1_5 wd_3_27 (by decide +kernel) ⟨Nat.le_of_ble_eq_true rfl, Nat.le_of_ble_eq_true rfl⟩) (
  fm (z_aload_n (j := 0) (by decide +kernel) rfl) (
  fm (z_iconst (n := 0) (by decide +kernel) (by decide)) (
  fm (z_bipush (n := 11) (by decide +kernel) (by decide)) (
  fm (z_inv (idx := 85) rfl (by decide +kernel) wd_3_115 wd_3_117 ws_21 wd_1_5 wd_3_118 (by decide +kernel) ⟨Nat.le_of_ble_eq_true rfl, Nat.le_of_ble_eq_true rfl⟩) (
  fm (z_if_eq (off := 14) (by decide +kernel) (by decide)) (
  fm (z_aload_n (j := 1) (by decide +kernel) rfl) (
  fm (z_aload_n (j := 0) (by decide +kernel) rfl) (
  fm (z_getf (idx := 47) awX3 rfl (by decide) wd_1_112 rfl (by decide +kernel)) (
  fm (z_inv (idx := 89) rfl (by decide +kernel) wd_3_119 wd_1_205 wd_1_206 wd_1_2 wd_1_207 (by decide +kernel) ⟨Nat.le_of_ble_eq_true rfl, Nat.le_of_ble_eq_true rfl⟩) (
  fm (z_if_lt (off := 5) (by decide +kernel) (by decide)) (
  fm (z_iconst (n := 0) (by decide +kernel) (by decide)) (
  fm (z_zret rfl (by decide +kernel)) (
  fm (z_aload_n (j := 1) (by decide +kernel) rfl) (
  fm (z_iload_n (j := 2) (by decide +kernel) rfl) (
  fm (z_aload_n (j := 0) (by decide +kernel) rfl) (
  fm (z_getf (idx := 47) awX3 rfl (by decide) wd_1_112 rfl (by decide +kernel)) (
  fm (z_inv (idx := 93) rfl (by decide +kernel) wd_3_120 wd_1_209 wd_1_210 wd_1_2 wd_1_211 (by decide +kernel) ⟨Nat.le_of_ble_eq_true rfl, Nat.le_of_ble_eq_true rfl⟩) (
  fm (z_istore_n (j := 3) (by decide +kernel) rfl (by decide)) (
  fm (z_aload_n (j := 0) (by decide +kernel) rfl) (
  fm (z_inv (idx := 22) rfl (by decide +kernel) wd_3_24 wd_3_26 ws_13 wd_1_5 wd_3_27 (by decide +kernel) ⟨Nat.le_of_ble_eq_true rfl, Nat.le_of_ble_eq_true rfl⟩) (
  fm (z_aload_n (j := 0) (by decide +kernel) rfl) (
  fm (z_ldcs (i := 8) (idx := 97) (by decide) rfl (by decide +kernel)) (
  fm (z_inv (idx := 59) rfl (by decide +kernel) wd_3_58 wd_3_60 ws_19 wd_1_5 wd_3_61 (by decide +kernel) ⟨Nat.le_of_ble_eq_true rfl, Nat.le_of_ble_eq_true rfl⟩) (
  fm (z_if_ne (off := 5) (by decide +kernel) (by decide)) (
  fm (z_iconst (n := 1) (by decide +kernel) (by decide)) (
  fm (z_zret rfl (by decide +kernel)) (
  fm (z_aload_n (j := 0) (by decide +kernel) rfl) (
  fm (z_inv (idx := 22) rfl (by decide +kernel) wd_3_24 wd_3_26 ws_13 wd_1_5 wd_3_27 (by decide +kernel) ⟨Nat.le_of_ble_eq_true rfl, Nat.le_of_ble_eq_true rfl⟩) (
  fm (z_aload_n (j := 0) (by decide +kernel) rfl) (
  fm (z_iconst (n := 0) (by decide +kernel) (by decide)) (
  fm (z_bipush (n := 99) (by decide +kernel) (by decide)) (
  fm (z_inv (idx := 85) rfl (by decide +kernel) wd_3_115 wd_3_117 ws_21 wd_1_5 wd_3_118 (by decide +kernel) ⟨Nat.le_of_ble_eq_true rfl, Nat.le_of_ble_eq_true rfl⟩) (
  fm (z_if_ne (off := 5) (by decide +kernel) (by decide)) (
  fm (z_iconst (n := 0) (by decide +kernel) (by decide)) (
  fm (z_zret rfl (by decide +kernel)) (
  fm (z_aload_n (j := 1) (by decide +kernel) rfl) (
  fm (z_getf (idx := 99) awX2 rfl (by decide) wd_1_43 rfl (by decide +kernel)) (
  fm (z_iload_n (j := 3) (by decide +kernel) rfl) (
  fm (z_aload_n (j := 0) (by decide +kernel) rfl) (
  fm (z_getf (idx := 47) awX3 rfl (by decide) wd_1_112 rfl (by decide +kernel)) (
  fm (z_iast (by decide +kernel)) (
  fm (z_aload_n (j := 0) (by decide +kernel) rfl) (
  fm (z_inv (idx := 22) rfl (by decide +kernel) wd_3_24 wd_3_26 ws_13 wd_1_5 wd_3_27 (by decide +kernel) ⟨Nat.le_of_ble_eq_true rfl, Nat.le_of_ble_eq_true rfl⟩) (
  fm (z_iconst (n := 1) (by decide +kernel) (by decide)) (
  fm (z_zret rfl (by decide +kernel)) (fn)))))))))))))))))))))))))))))))))))))))))))))))))))))))))))))
def kX3_readText : Cd := [(0, s_aload 0 1), (1, s_pushi 0 2), (2, s_putf .int 3 4 5), (5, s_pushi 1 6), (6, s_istore 2 7), (7, s_iload 2 8), (8, s_pushi 120 10), (10, s_icmp (fun x y => y < x) 62 13), (13, s_aload 0 14), (14, s_inv mX3_readOn 3 0 17), (17, s_aload 0 18), (18, s_aload 1 19), (19, s_inv mX3_readItem 3 1 22), (22, s_if (fun x => x = 0) 25 32), (25, s_pushi (-1) 26), (26, s_aload 0 27), (27, s_getf 3 3 30), (30, s_bin (fun x y => x - y) 31), (31, s_iret), (32, s_aload 0 33), (33, s_getf 3 2 36), (36, s_if (fun x => x = 0) 39 41), (39, s_iload 2 40), (40, s_iret), (41, s_aload 0 42), (42, s_getf 3 2 45), (45, s_pushi 3 46), (46, s_icmp (fun x y => x = y) 56 49), (49, s_pushi (-1) 50), (50, s_aload 0 51), (51, s_getf 3 3 54), (54, s_bin (fun x y => x - y) 55), (55, s_iret), (56, s_iinc 2 1 59), (59, s_goto 7), (62, s_pushi (-1) 63), (63, s_aload 0 64), (64, s_getf 3 3 67), (67, s_bin (fun x y => x - y) 68), (68, s_iret)]
set_option maxRecDepth 20000 in
theorem zX3_readText : ∀ q ∈ kX3_readText, Snd RX3 cX3_readText 3 (some .int) (rmM mX3_readText) q.1 q.2 :=
  fm (z_aload_n (j := 0) (by decide +kernel) rfl) (
  fm (z_iconst (n := 0) (by decide +kernel) (by decide)) (
  fm (z_putf (idx := 19) tyX3 tyX3_ok nmX3 awX3 rfl (by decide) wd_1_111 rfl rfl (by decide +kernel) (by decide +kernel)) (
  fm (z_iconst (n := 1) (by decide +kernel) (by decide)) (
  fm (z_istore_n (j := 2) (by decide +kernel) rfl (by decide)) (
  fm (z_iload_n (j := 2) (by decide +kernel) rfl) (
  fm (z_bipush (n := 120) (by decide +kernel) (by decide)) (
  fm (z_icmp_gt (off := 52) (by decide +kernel) (by decide)) (
  fm (z_aload_n (j := 0) (by decide +kernel) rfl) (
  fm (z_inv (idx := 22) rfl (by decide +kernel) wd_3_24 wd_3_26 ws_13 wd_1_5 wd_3_27 (by decide +kernel) ⟨Nat.le_of_ble_eq_true rfl, Nat.le_of_ble_eq_true rfl⟩) (
  fm (z_aload_n (j := 0) (by decide +kernel) rfl) (
  fm (z_aload_n (j := 1) (by decide +kernel) rfl) (
  fm (z_inv (idx := 25) rfl (by decide +kernel) wd_3_40 wd_3_42 ws_17 wd_1_5 wd_3_43 (by decide +kernel) ⟨Nat.le_of_ble_eq_true rfl, Nat.le_of_ble_eq_true rfl⟩) (
  fm (z_if_ne (off := 10) (by decide +kernel) (by decide)) (
  fm (z_iconst (n := (-1)) (by decide +kernel) (by decide)) (
  fm (z_aload_n (j := 0) (by decide +kernel) rfl) (
  fm (z_getf (idx := 29) awX3 rfl (by decide) wd_1_110 rfl (by decide +kernel)) (
  fm (z_isub (by decide +kernel)) (
  fm (z_iret rfl (by decide +kernel)) (
  fm (z_aload_n (j := 0) (by decide +kernel) rfl) (
  fm (z_getf (idx := 32) awX3 rfl (by decide) wd_1_109 rfl (by decide +kernel)) (
  fm (z_if_ne (off := 5) (by decide +kernel) (by decide)) (
  fm (z_iload_n (j := 2) (by decide +kernel) rfl) (
  fm (z_iret rfl (by decide +kernel)) (
  fm (z_aload_n (j := 0) (by decide +kernel) rfl) (
  fm (z_getf (idx := 32) awX3 rfl (by decide) wd_1_109 rfl (by decide +kernel)) (
  fm (z_iconst (n := 3) (by decide +kernel) (by decide)) (
  fm (z_icmp_eq (off := 10) (by decide +kernel) (by decide)) (
  fm (z_iconst (n := (-1)) (by decide +kernel) (by decide)) (
  fm (z_aload_n (j := 0) (by decide +kernel) rfl) (
  fm (z_getf (idx := 29) awX3 rfl (by decide) wd_1_110 rfl (by decide +kernel)) (
  fm (z_isub (by decide +kernel)) (
  fm (z_iret rfl (by decide +kernel)) (
  fm (z_iinc (n := 1) (by decide +kernel) (by decide) (by decide)) (
  fm (z_goto (off := (-52)) (by decide +kernel) (by decide)) (
  fm (z_iconst (n := (-1)) (by decide +kernel) (by decide)) (
  fm (z_aload_n (j := 0) (by decide +kernel) rfl) (
  fm (z_getf (idx := 29) awX3 rfl (by decide) wd_1_110 rfl (by decide +kernel)) (
  fm (z_isub (by decide +kernel)) (
  fm (z_iret rfl (by decide +kernel)) (fn))))))))))))))))))))))))))))))))))))))))
def kX3_readVisits : Cd := [(0, s_aload 0 1), (1, s_inv mX3_readOn 3 0 4), (4, s_aload 0 5), (5, s_pushi 0 6), (6, s_pushi 11 8), (8, s_inv mX3_isNumber 3 2 11), (11, s_if (fun x => x = 0) 14 16), (14, s_pushi 0 15), (15, s_zret), (16, s_aload 0 17), (17, s_getf 3 5 20), (20, s_istore 2 21), (21, s_aload 0 22), (22, s_getf 3 5 25), (25, s_istore 3 26), (26, s_aload 0 27), (27, s_inv mX3_readOn 3 0 30), (30, s_aload 0 31), (31, s_ldcs 10 33), (33, s_inv mX3_isWord 3 1 36), (36, s_if (fun x => x = 0) 64 39), (39, s_aload 0 40), (40, s_inv mX3_readOn 3 0 43), (43, s_aload 0 44), (44, s_iload 2 45), (45, s_pushi 11 47), (47, s_inv mX3_isNumber 3 2 50), (50, s_if (fun x => x = 0) 53 55), (53, s_pushi 0 54), (54, s_zret), (55, s_aload 0 56), (56, s_getf 3 5 59), (59, s_istore 3 60), (60, s_aload 0 61), (61, s_inv mX3_readOn 3 0 64), (64, s_aload 0 65), (65, s_ldcs 11 67), (67, s_inv mX3_isWord 3 1 70), (70, s_if (fun x => x = 0) 73 75), (73, s_pushi 0 74), (74, s_zret), (75, s_aload 0 76), (76, s_inv mX3_readOn 3 0 79), (79, s_aload 0 80), (80, s_pushi 0 81), (81, s_pushi 20 83), (83, s_inv mX3_isNumber 3 2 86), (86, s_if (fun x => x = 0) 89 91), (89, s_pushi 0 90), (90, s_zret), (91, s_iload 2 92), (92, s_istore 4 94), (94, s_iload 4 96), (96, s_iload 3 97), (97, s_icmp (fun x y => y < x) 117 100), (100, s_aload 1 101), (101, s_getf 2 0 104), (104, s_iload 4 106), (106, s_aload 0 107), (107, s_getf 3 5 110), (110, s_iast 111), (111, s_iinc 4 1 114), (114, s_goto 94), (117, s_aload 0 118), (118, s_inv mX3_readOn 3 0 121), (121, s_pushi 1 122), (122, s_zret)]
set_option maxRecDepth 20000 in
theorem zX3_readVisits : ∀ q ∈ kX3_readVisits, Snd RX3 cX3_readVisits 5 (some .boolean) (rmM mX3_readVisits) q.1 q.2 :=
  fm (z_aload_n (j := 0) (by decide +kernel) rfl) (
  fm (z_inv (idx := 22) rfl (by decide +kernel) wd_3_24 wd_3_26 ws_13 wd_1_5 wd_3_27 (by decide +kernel) ⟨Nat.le_of_ble_eq_true rfl, Nat.le_of_ble_eq_true rfl⟩) (
  fm (z_aload_n (j := 0) (by decide +kernel) rfl) (
  fm (z_iconst (n := 0) (by decide +kernel) (by decide)) (
  fm (z_bipush (n := 11) (by decide +kernel) (by decide)) (
  fm (z_inv (idx := 85) rfl (by decide +kernel) wd_3_115 wd_3_117 ws_21 wd_1_5 wd_3_118 (by decide +kernel) ⟨Nat.le_of_ble_eq_true rfl, Nat.le_of_ble_eq_true rfl⟩) (
  fm (z_if_ne (off := 5) (by decide +kernel) (by decide)) (
  fm (z_iconst (n := 0) (by decide +kernel) (by decide)) (
  fm (z_zret rfl (by decide +kernel)) (
  fm (z_aload_n (j := 0) (by decide +kernel) rfl) (
  fm (z_getf (idx := 47) awX3 rfl (by decide) wd_1_112 rfl (by decide +kernel)) (
  fm (z_istore_n (j := 2) (by decide +kernel) rfl (by decide)) (
  fm (z_aload_n (j := 0) (by decide +kernel) rfl) (
  fm (z_getf (idx := 47) awX3 rfl (by decide) wd_1_112 rfl (by decide +kernel)) (
  fm (z_istore_n (j := 3) (by decide +kernel) rfl (by decide)) (
  fm (z_aload_n (j := 0) (by decide +kernel) rfl) (
  fm (z_inv (idx := 22) rfl (by decide +kernel) wd_3_24 wd_3_26 ws_13 wd_1_5 wd_3_27 (by decide +kernel) ⟨Nat.le_of_ble_eq_true rfl, Nat.le_of_ble_eq_true rfl⟩) (
  fm (z_aload_n (j := 0) (by decide +kernel) rfl) (
  fm (z_ldcs (i := 10) (idx := 102) (by decide) rfl (by decide +kernel)) (
  fm (z_inv (idx := 59) rfl (by decide +kernel) wd_3_58 wd_3_60 ws_19 wd_1_5 wd_3_61 (by decide +kernel) ⟨Nat.le_of_ble_eq_true rfl, Nat.le_of_ble_eq_true rfl⟩) (
  fm (z_if_eq (off := 28) (by decide +kernel) (by decide)) (
  fm (z_aload_n (j := 0) (by decide +kernel) rfl) (
  fm (z_inv (idx := 22) rfl (by decide +kernel) wd_3_24 wd_3_26 ws_13 wd_1_5 wd_3_27 (by decide +kernel) ⟨Nat.le_of_ble_eq_true rfl, Nat.le_of_ble_eq_true rfl⟩) (
  fm (z_aload_n (j := 0) (by decide +kernel) rfl) (
  fm (z_iload_n (j := 2) (by decide +kernel) rfl) (
  fm (z_bipush (n := 11) (by decide +kernel) (by decide)) (
  fm (z_inv (idx := 85) rfl (by decide +kernel) wd_3_115 wd_3_117 ws_21 wd_1_5 wd_3_118 (by decide +kernel) ⟨Nat.le_of_ble_eq_true rfl, Nat.le_of_ble_eq_true rfl⟩) (
  fm (z_if_ne (off := 5) (by decide +kernel) (by decide)) (
  fm (z_iconst (n := 0) (by decide +kernel) (by decide)) (
  fm (z_zret rfl (by decide +kernel)) (
  fm (z_aload_n (j := 0) (by decide +kernel) rfl) (
  fm (z_getf (idx := 47) awX3 rfl (by decide) wd_1_112 rfl (by decide +kernel)) (
  fm (z_istore_n (j := 3) (by decide +kernel) rfl (by decide)) (
  fm (z_aload_n (j := 0) (by decide +kernel) rfl) (
  fm (z_inv (idx := 22) rfl (by decide +kernel) wd_3_24 wd_3_26 ws_13 wd_1_5 wd_3_27 (by decide +kernel) ⟨Nat.le_of_ble_eq_true rfl, Nat.le_of_ble_eq_true rfl⟩) (
  fm (z_aload_n (j := 0) (by decide +kernel) rfl) (
  fm (z_ldcs (i := 11) (idx := 104) (by decide) rfl (by decide +kernel)) (
  fm (z_inv (idx := 59) rfl (by decide +kernel) wd_3_58 wd_3_60 ws_19 wd_1_5 wd_3_61 (by decide +kernel) ⟨Nat.le_of_ble_eq_true rfl, Nat.le_of_ble_eq_true rfl⟩) (
  fm (z_if_ne (off := 5) (by decide +kernel) (by decide)) (
  fm (z_iconst (n := 0) (by decide +kernel) (by decide)) (
  fm (z_zret rfl (by decide +kernel)) (
  fm (z_aload_n (j := 0) (by decide +kernel) rfl) (
  fm (z_inv (idx := 22) rfl (by decide +kernel) wd_3_24 wd_3_26 ws_13 wd_1_5 wd_3_27 (by decide +kernel) ⟨Nat.le_of_ble_eq_true rfl, Nat.le_of_ble_eq_true rfl⟩) (
  fm (z_aload_n (j := 0) (by decide +kernel) rfl) (
  fm (z_iconst (n := 0) (by decide +kernel) (by decide)) (
  fm (z_bipush (n := 20) (by decide +kernel) (by decide)) (
  fm (z_inv (idx := 85) rfl (by decide +kernel) wd_3_115 wd_3_117 ws_21 wd_1_5 wd_3_118 (by decide +kernel) ⟨Nat.le_of_ble_eq_true rfl, Nat.le_of_ble_eq_true rfl⟩) (
  fm (z_if_ne (off := 5) (by decide +kernel) (by decide)) (
  fm (z_iconst (n := 0) (by decide +kernel) (by decide)) (
  fm (z_zret rfl (by decide +kernel)) (
  fm (z_iload_n (j := 2) (by decide +kernel) rfl) (
  fm (z_istore (i := 4) (by decide +kernel) (by decide)) (
  fm (z_iload (i := 4) (by decide +kernel)) (
  fm (z_iload_n (j := 3) (by decide +kernel) rfl) (
  fm (z_icmp_gt (off := 20) (by decide +kernel) (by decide)) (
  fm (z_aload_n (j := 1) (by decide +kernel) rfl) (
  fm (z_getf (idx := 106) awX2 rfl (by decide) wd_1_33 rfl (by decide +kernel)) (
  fm (z_iload (i := 4) (by decide +kernel)) (
  fm (z_aload_n (j := 0) (by decide +kernel) rfl) (
  fm (z_getf (idx := 47) awX3 rfl (by decide) wd_1_112 rfl (by decide +kernel)) (
  fm (z_iast (by decide +kernel)) (
  fm (z_iinc (n := 1) (by decide +kernel) (by decide) (by decide)) (
  fm (z_goto (off := (-20)) (by decide +kernel) (by decide)) (
  fm (z_aload_n (j := 0) (by decide +kernel) rfl) (
  fm (z_inv (idx := 22) rfl (by decide +kernel) wd_3_24 wd_3_26 ws_13 wd_1_5 wd_3_27 (by decide +kernel) ⟨Nat.le_of_ble_eq_true rfl, Nat.le_of_ble_eq_true rfl⟩) (
  fm (z_iconst (n := 1) (by decide +kernel) (by decide)) (
  fm (z_zret rfl (by decide +kernel)) (fn)))))))))))))))))))))))))))))))))))))))))))))))))))))))))))))))))))
def kX3_valueOfRun : Cd := [(0, s_pushi 0 1), (1, s_istore 1 2), (2, s_aload 0 3), (3, s_getf 3 3 6), (6, s_istore 2 7), (7, s_iload 2 8), (8, s_aload 0 9), (9, s_getf 3 4 12), (12, s_icmp (fun x y => y ≤ x) 43 15), (15, s_iload 1 16), (16, s_pushi 999 19), (19, s_icmp (fun x y => y < x) 43 22), (22, s_iload 1 23), (23, s_pushi 10 25), (25, s_bin (fun x y => x * y) 26), (26, s_aload 0 27), (27, s_getf 3 0 30), (30, s_iload 2 31), (31, s_iald 32), (32, s_pushi 48 34), (34, s_bin (fun x y => x - y) 35), (35, s_bin (fun x y => x + y) 36), (36, s_istore 1 37), (37, s_iinc 2 1 40), (40, s_goto 7), (43, s_iload 1 44), (44, s_iret)]
set_option maxRecDepth 20000 in
theorem zX3_valueOfRun : ∀ q ∈ kX3_valueOfRun, Snd RX3 cX3_valueOfRun 3 (some .int) (rmM mX3_valueOfRun) q.1 q.2 :=
  fm (z_iconst (n := 0) (by decide +kernel) (by decide)) (
  fm (z_istore_n (j := 1) (by decide +kernel) rfl (by decide)) (
  fm (z_aload_n (j := 0) (by decide +kernel) rfl) (
  fm (z_getf (idx := 29) awX3 rfl (by decide) wd_1_110 rfl (by decide +kernel)) (
  fm (z_istore_n (j := 2) (by decide +kernel) rfl (by decide)) (
  fm (z_iload_n (j := 2) (by decide +kernel) rfl) (
  fm (z_aload_n (j := 0) (by decide +kernel) rfl) (
  fm (z_getf (idx := 19) awX3 rfl (by decide) wd_1_111 rfl (by decide +kernel)) (
  fm (z_icmp_ge (off := 31) (by decide +kernel) (by decide)) (
  fm (z_iload_n (j := 1) (by decide +kernel) rfl) (
  fm (z_sipush (n := 999) (by decide +kernel) (by decide)) (
  fm (z_icmp_gt (off := 24) (by decide +kernel) (by decide)) (
  fm (z_iload_n (j := 1) (by decide +kernel) rfl) (
  fm (z_bipush (n := 10) (by decide +kernel) (by decide)) (
  fm (z_imul (by decide +kernel)) (
  fm (z_aload_n (j := 0) (by decide +kernel) rfl) (
  fm (z_getf (idx := 9) awX3 rfl (by decide) wd_1_106 rfl (by decide +kernel)) (
  fm (z_iload_n (j := 2) (by decide +kernel) rfl) (
  fm (z_iald (by decide +kernel)) (
  fm (z_bipush (n := 48) (by decide +kernel) (by decide)) (
  fm (z_isub (by decide +kernel)) (
  fm (z_iadd (by decide +kernel)) (
  fm (z_istore_n (j := 1) (by decide +kernel) rfl (by decide)) (
  fm (z_iinc (n := 1) (by decide +kernel) (by decide) (by decide)) (
  fm (z_goto (off := (-33)) (by decide +kernel) (by decide)) (
  fm (z_iload_n (j := 1) (by decide +kernel) rfl) (
  fm (z_iret rfl (by decide +kernel)) (fn)))))))))))))))))))))))))))
def kX3_wordOfKind : Cd := [(0, s_iload 0 1), (1, s_sw [(1, 40), (2, 43), (3, 46), (4, 49), (5, 52), (6, 55)] 58), (40, s_ldcs 0 42), (42, s_aret), (43, s_ldcs 1 45), (45, s_aret), (46, s_ldcs 2 48), (48, s_aret), (49, s_ldcs 3 51), (51, s_aret), (52, s_ldcs 4 54), (54, s_aret), (55, s_ldcs 5 57), (57, s_aret), (58, s_ldcs 6 60), (60, s_aret)]
set_option maxRecDepth 20000 in
theorem zX3_wordOfKind : ∀ q ∈ kX3_wordOfKind, Snd RX3 cX3_wordOfKind 1 (some (.object "java/lang/String")) (rmM mX3_wordOfKind) q.1 q.2 :=
  fm (z_iload_n (j := 0) (by decide +kernel) rfl) (
  fm (z_tsw (dflt := 57) (lo := 1) (hi := 6) (offs := #[39, 42, 45, 48, 51, 54]) (len := 39) (by decide +kernel) (by decide) rfl (by decide) (by decide +kernel)) (
  fm (z_ldcs (i := 0) (idx := 127) (by decide) rfl (by decide +kernel)) (
  fm (z_aret rfl (by decide +kernel)) (
  fm (z_ldcs (i := 1) (idx := 129) (by decide) rfl (by decide +kernel)) (
  fm (z_aret rfl (by decide +kernel)) (
  fm (z_ldcs (i := 2) (idx := 131) (by decide) rfl (by decide +kernel)) (
  fm (z_aret rfl (by decide +kernel)) (
  fm (z_ldcs (i := 3) (idx := 133) (by decide) rfl (by decide +kernel)) (
  fm (z_aret rfl (by decide +kernel)) (
  fm (z_ldcs (i := 4) (idx := 135) (by decide) rfl (by decide +kernel)) (
  fm (z_aret rfl (by decide +kernel)) (
  fm (z_ldcs (i := 5) (idx := 137) (by decide) rfl (by decide +kernel)) (
  fm (z_aret rfl (by decide +kernel)) (
  fm (z_ldcs (i := 6) (idx := 139) (by decide) rfl (by decide +kernel)) (
  fm (z_aret rfl (by decide +kernel)) (fn))))))))))))))))
