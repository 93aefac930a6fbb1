/-! CODE of X4, by program -/
def kX4_again : Cd := [(0, s_aload 0 1), (1, s_pushi 1 2), (2, s_pushi 96 4), (4, s_pushi 0 5), (5, s_pushi 96 7), (7, s_inv mX4_aheadFinding 4 4 10), (10, s_istore 1 11), (11, s_iload 1 12), (12, s_if (fun x => x = 0) 17 15), (15, s_iload 1 16), (16, s_iret), (17, s_aload 0 18), (18, s_getf 4 1 21), (21, s_aload 0 22), (22, s_getf 4 0 25), (25, s_inv mX2_become 2 1 28), (28, s_pushi 1 29), (29, s_istore 2 30), (30, s_iload 2 31), (31, s_pushi 96 33), (33, s_icmp (fun x y => y < x) 66 36), (36, s_aload 0 37), (37, s_getf 4 1 40), (40, s_inv mX2_passHour 2 0 43), (43, s_pop 44), (44, s_aload 0 45), (45, s_getf 4 1 48), (48, s_aload 0 49), (49, s_getf 4 0 52), (52, s_inv mX2_standsLike 2 1 55), (55, s_if (fun x => x = 0) 60 58), (58, s_iload 2 59), (59, s_iret), (60, s_iinc 2 1 63), (63, s_goto 30), (66, s_aload 0 67), (67, s_pushi 3 68), (68, s_inv mX4_finding 4 1 71), (71, s_iret)]
set_option maxRecDepth 20000 in
theorem zX4_again : ∀ q ∈ kX4_again, Snd RX4 cX4_again 3 (some .int) (rmM mX4_again) q.1 q.2 :=
  fm (z_aload_n (j := 0) (by decide +kernel) rfl) (
  fm (z_iconst (n := 1) (by decide +kernel) (by decide)) (
  fm (z_bipush (n := 96) (by decide +kernel) (by decide)) (
  fm (z_iconst (n := 0) (by decide +kernel) (by decide)) (
  fm (z_bipush (n := 96) (by decide +kernel) (by decide)) (
  fm (z_inv (idx := 115) rfl (by decide +kernel) wd_2_22 wd_2_24 ws_3 wd_1_1 wd_2_25 (by decide +kernel) ⟨Nat.le_of_ble_eq_true rfl, Nat.le_of_ble_eq_true rfl⟩) (
  fm (z_istore_n (j := 1) (by decide +kernel) rfl (by decide)) (
  fm (z_iload_n (j := 1) (by decide +kernel) rfl) (
  fm (z_if_eq (off := 5) (by decide +kernel) (by decide)) (
  fm (z_iload_n (j := 1) (by decide +kernel) rfl) (
  fm (z_iret rfl (by decide +kernel)) (
  fm (z_aload_n (j := 0) (by decide +kernel) rfl) (
  fm (z_getf (idx := 16) awX4 rfl (by decide) wd_1_147 rfl (by decide +kernel)) (
  fm (z_aload_n (j := 0) (by decide +kernel) rfl) (
  fm (z_getf (idx := 10) awX4 rfl (by decide) wd_1_146 rfl (by decide +kernel)) (
  fm (z_inv (idx := 122) rfl (by decide +kernel) wd_2_64 wd_2_65 wd_2_66 wd_1_2 wd_2_67 (by decide +kernel) ⟨Nat.le_of_ble_eq_true rfl, Nat.le_of_ble_eq_true rfl⟩) (
  fm (z_iconst (n := 1) (by decide +kernel) (by decide)) (
  fm (z_istore_n (j := 2) (by decide +kernel) rfl (by decide)) (
  fm (z_iload_n (j := 2) (by decide +kernel) rfl) (
  fm (z_bipush (n := 96) (by decide +kernel) (by decide)) (
  fm (z_icmp_gt (off := 33) (by decide +kernel) (by decide)) (
  fm (z_aload_n (j := 0) (by decide +kernel) rfl) (
  fm (z_getf (idx := 16) awX4 rfl (by decide) wd_1_147 rfl (by decide +kernel)) (
  fm (z_inv (idx := 142) rfl (by decide +kernel) wd_2_93 wd_2_31 wd_2_32 wd_1_2 wd_2_33 (by decide +kernel) ⟨Nat.le_of_ble_eq_true rfl, Nat.le_of_ble_eq_true rfl⟩) (
  fm (z_pop (by decide +kernel)) (
  fm (z_aload_n (j := 0) (by decide +kernel) rfl) (
  fm (z_getf (idx := 16) awX4 rfl (by decide) wd_1_147 rfl (by decide +kernel)) (
  fm (z_aload_n (j := 0) (by decide +kernel) rfl) (
  fm (z_getf (idx := 10) awX4 rfl (by decide) wd_1_146 rfl (by decide +kernel)) (
  fm (z_inv (idx := 145) rfl (by decide +kernel) wd_2_102 wd_2_103 wd_2_104 wd_1_2 wd_2_105 (by decide +kernel) ⟨Nat.le_of_ble_eq_true rfl, Nat.le_of_ble_eq_true rfl⟩) (
  fm (z_if_eq (off := 5) (by decide +kernel) (by decide)) (
  fm (z_iload_n (j := 2) (by decide +kernel) rfl) (
  fm (z_iret rfl (by decide +kernel)) (
  fm (z_iinc (n := 1) (by decide +kernel) (by decide) (by decide)) (
  fm (z_goto (off := (-33)) (by decide +kernel) (by decide)) (
  fm (z_aload_n (j := 0) (by decide +kernel) rfl) (
  fm (z_iconst (n := 3) (by decide +kernel) (by decide)) (
  fm (z_inv (idx := 57) rfl (by decide +kernel) wd_1_184 wd_1_186 ws_0 wd_1_1 wd_1_187 (by decide +kernel) ⟨Nat.le_of_ble_eq_true rfl, Nat.le_of_ble_eq_true rfl⟩) (
  fm (z_iret rfl (by decide +kernel)) (fn)))))))))))))))))))))))))))))))))))))))
def kX4_ahead : Cd := [(0, s_aload 0 1), (1, s_iload 2 2), (2, s_if (fun x => x < 0) 22 5), (5, s_iload 2 6), (6, s_pushi 4 7), (7, s_aload 0 8), (8, s_getf 4 0 11), (11, s_getf 2 9 14), (14, s_bin (fun x y => x + y) 15), (15, s_icmp (fun x y => y ≤ x) 22 18), (18, s_pushi 1 19), (19, s_goto 23), (22, s_pushi 0 23), (23, s_iload 1 24), (24, s_pushi 0 25), (25, s_pushi 96 27), (27, s_inv mX4_aheadFinding 4 4 30), (30, s_istore 3 31), (31, s_iload 3 32), (32, s_if (fun x => x = 0) 37 35), (35, s_iload 3 36), (36, s_iret), (37, s_aload 0 38), (38, s_getf 4 1 41), (41, s_aload 0 42), (42, s_getf 4 0 45), (45, s_inv mX2_become 2 1 48), (48, s_aload 0 49), (49, s_getf 4 1 52), (52, s_iload 1 53), (53, s_inv mX2_passHours 2 1 56), (56, s_istore 4 58), (58, s_iload 2 59), (59, s_sw [(0, 88), (1, 91), (2, 99), (3, 107)] 115), (88, s_iload 4 90), (90, s_iret), (91, s_aload 0 92), (92, s_getf 4 1 95), (95, s_inv mX2_soldOut 2 0 98), (98, s_iret), (99, s_aload 0 100), (100, s_getf 4 1 103), (103, s_inv mX2_freePlaces 2 0 106), (106, s_iret), (107, s_aload 0 108), (108, s_getf 4 1 111), (111, s_inv mX2_allCoin 2 0 114), (114, s_iret), (115, s_aload 0 116), (116, s_getf 4 1 119), (119, s_getf 2 3 122), (122, s_iload 2 123), (123, s_pushi 4 124), (124, s_bin (fun x y => x - y) 125), (125, s_iald 126), (126, s_iret)]
set_option maxRecDepth 20000 in
theorem zX4_ahead : ∀ q ∈ kX4_ahead, Snd RX4 cX4_ahead 5 (some .int) (rmM mX4_ahead) q.1 q.2 :=
  fm (z_aload_n (j := 0) (by decide +kernel) rfl) (
  fm (z_iload_n (j := 2) (by decide +kernel) rfl) (
  fm (z_if_lt (off := 20) (by decide +kernel) (by decide)) (
  fm (z_iload_n (j := 2) (by decide +kernel) rfl) (
  fm (z_iconst (n := 4) (by decide +kernel) (by decide)) (
  fm (z_aload_n (j := 0) (by decide +kernel) rfl) (
  fm (z_getf (idx := 10) awX4 rfl (by decide) wd_1_146 rfl (by decide +kernel)) (
  fm (z_getf (idx := 77) awX2 rfl (by decide) wd_1_54 rfl (by decide +kernel)) (
  fm (z_iadd (by decide +kernel)) (
  fm (z_icmp_ge (off := 7) (by decide +kernel) (by decide)) (
  fm (z_iconst (n := 1) (by decide +kernel) (by decide)) (
  fm (z_goto (off := 4) (by decide +kernel) (by decide)) (
  fm (z_iconst (n := 0) (by decide +kernel) (by decide)) (
  fm (z_iload_n (j := 1) (by decide +kernel) rfl) (
  fm (z_iconst (n := 0) (by decide +kernel) (by decide)) (
  fm (z_bipush (n := 96) (by decide +kernel) (by decide)) (
  fm (z_inv (idx := 115) rfl (by decide +kernel) wd_2_22 wd_2_24 ws_3 wd_1_1 wd_2_25 (by decide +kernel) ⟨Nat.le_of_ble_eq_true rfl, Nat.le_of_ble_eq_true rfl⟩) (
  fm (z_istore_n (j := 3) (by decide +kernel) rfl (by decide)) (
  fm (z_iload_n (j := 3) (by decide +kernel) rfl) (
  fm (z_if_eq (off := 5) (by decide +kernel) (by decide)) (
  fm (z_iload_n (j := 3) (by decide +kernel) rfl) (
  fm (z_iret rfl (by decide +kernel)) (
  fm (z_aload_n (j := 0) (by decide +kernel) rfl) (
  fm (z_getf (idx := 16) awX4 rfl (by decide) wd_1_147 rfl (by decide +kernel)) (
  fm (z_aload_n (j := 0) (by decide +kernel) rfl) (
  fm (z_getf (idx := 10) awX4 rfl (by decide) wd_1_146 rfl (by decide +kernel)) (
  fm (z_inv (idx := 122) rfl (by decide +kernel) wd_2_64 wd_2_65 wd_2_66 wd_1_2 wd_2_67 (by decide +kernel) ⟨Nat.le_of_ble_eq_true rfl, Nat.le_of_ble_eq_true rfl⟩) (
  fm (z_aload_n (j := 0) (by decide +kernel) rfl) (
  fm (z_getf (idx := 16) awX4 rfl (by decide) wd_1_147 rfl (by decide +kernel)) (
  fm (z_iload_n (j := 1) (by decide +kernel) rfl) (
  fm (z_inv (idx := 119) rfl (by decide +kernel) wd_2_26 wd_2_27 wd_2_28 wd_1_2 wd_2_29 (by decide +kernel) ⟨Nat.le_of_ble_eq_true rfl, Nat.le_of_ble_eq_true rfl⟩) (
  fm (z_istore (i := 4) (by decide +kernel) (by decide)) (
  fm (z_iload_n (j := 2) (by decide +kernel) rfl) (
  fm (z_tsw (dflt := 56) (lo := 0) (hi := 3) (offs := #[29, 32, 40, 48]) (len := 29) (by decide +kernel) (by decide) rfl (by decide) (by decide +kernel)) (
  fm (z_iload (i := 4) (by decide +kernel)) (
  fm (z_iret rfl (by decide +kernel)) (
  fm (z_aload_n (j := 0) (by decide +kernel) rfl) (
  fm (z_getf (idx := 16) awX4 rfl (by decide) wd_1_147 rfl (by decide +kernel)) (
  fm (z_inv (idx := 133) rfl (by decide +kernel) wd_2_77 wd_2_78 wd_2_79 wd_1_2 wd_2_80 (by decide +kernel) ⟨Nat.le_of_ble_eq_true rfl, Nat.le_of_ble_eq_true rfl⟩) (
  fm (z_iret rfl (by decide +kernel)) (
  fm (z_aload_n (j := 0) (by decide +kernel) rfl) (
  fm (z_getf (idx := 16) awX4 rfl (by decide) wd_1_147 rfl (by decide +kernel)) (
  fm (z_inv (idx := 136) rfl (by decide +kernel) wd_2_81 wd_2_82 wd_2_83 wd_1_2 wd_2_84 (by decide +kernel) ⟨Nat.le_of_ble_eq_true rfl, Nat.le_of_ble_eq_true rfl⟩) (
  fm (z_iret rfl (by decide +kernel)) (
  fm (z_aload_n (j := 0) (by decide +kernel) rfl) (
  fm (z_getf (idx := 16) awX4 rfl (by decide) wd_1_147 rfl (by decide +kernel)) (
  fm (z_inv (idx := 139) rfl (by decide +kernel) wd_2_85 wd_2_86 wd_2_87 wd_1_2 wd_2_88 (by decide +kernel) ⟨Nat.le_of_ble_eq_true rfl, Nat.le_of_ble_eq_true rfl⟩) (
  fm (z_iret rfl (by decide +kernel)) (
  fm (z_aload_n (j := 0) (by decide +kernel) rfl) (
  fm (z_getf (idx := 16) awX4 rfl (by decide) wd_1_147 rfl (by decide +kernel)) (
  fm (z_getf (idx := 90) awX2 rfl (by decide) wd_1_40 rfl (by decide +kernel)) (
  fm (z_iload_n (j := 2) (by decide +kernel) rfl) (
  fm (z_iconst (n := 4) (by decide +kernel) (by decide)) (
  fm (z_isub (by decide +kernel)) (
  fm (z_iald (by decide +kernel)) (
  fm (z_iret rfl (by decide +kernel)) (fn))))))))))))))))))))))))))))))))))))))))))))))))))))))))
def kX4_aheadFinding : Cd := [(0, s_iload 1 1), (1, s_if (fun x => x = 0) 15 4), (4, s_iload 2 5), (5, s_iload 3 6), (6, s_icmp (fun x y => x < y) 15 9), (9, s_iload 2 10), (10, s_iload 4 12), (12, s_icmp (fun x y => x ≤ y) 21 15), (15, s_aload 0 16), (16, s_pushi 0 17), (17, s_inv mX4_finding 4 1 20), (20, s_iret), (21, s_aload 0 22), (22, s_getf 4 0 25), (25, s_getf 2 10 28), (28, s_iload 2 29), (29, s_bin (fun x y => x + y) 30), (30, s_pushi 999 33), (33, s_icmp (fun x y => x ≤ y) 44 36), (36, s_aload 0 37), (37, s_pushi 4 38), (38, s_inv mX4_finding 4 1 41), (41, s_goto 45), (44, s_pushi 0 45), (45, s_iret)]
set_option maxRecDepth 20000 in
theorem zX4_aheadFinding : ∀ q ∈ kX4_aheadFinding, Snd RX4 cX4_aheadFinding 5 (some .int) (rmM mX4_aheadFinding) q.1 q.2 :=
  fm (z_iload_n (j := 1) (by decide +kernel) rfl) (
  fm (z_if_eq (off := 14) (by decide +kernel) (by decide)) (
  fm (z_iload_n (j := 2) (by decide +kernel) rfl) (
  fm (z_iload_n (j := 3) (by decide +kernel) rfl) (
  fm (z_icmp_lt (off := 9) (by decide +kernel) (by decide)) (
  fm (z_iload_n (j := 2) (by decide +kernel) rfl) (
  fm (z_iload (i := 4) (by decide +kernel)) (
  fm (z_icmp_le (off := 9) (by decide +kernel) (by decide)) (
  fm (z_aload_n (j := 0) (by decide +kernel) rfl) (
  fm (z_iconst (n := 0) (by decide +kernel) (by decide)) (
  fm (z_inv (idx := 57) rfl (by decide +kernel) wd_1_184 wd_1_186 ws_0 wd_1_1 wd_1_187 (by decide +kernel) ⟨Nat.le_of_ble_eq_true rfl, Nat.le_of_ble_eq_true rfl⟩) (
  fm (z_iret rfl (by decide +kernel)) (
  fm (z_aload_n (j := 0) (by decide +kernel) rfl) (
  fm (z_getf (idx := 10) awX4 rfl (by decide) wd_1_146 rfl (by decide +kernel)) (
  fm (z_getf (idx := 261) awX2 rfl (by decide) wd_1_57 rfl (by decide +kernel)) (
  fm (z_iload_n (j := 2) (by decide +kernel) rfl) (
  fm (z_iadd (by decide +kernel)) (
  fm (z_sipush (n := 999) (by decide +kernel) (by decide)) (
  fm (z_icmp_le (off := 11) (by decide +kernel) (by decide)) (
  fm (z_aload_n (j := 0) (by decide +kernel) rfl) (
  fm (z_iconst (n := 4) (by decide +kernel) (by decide)) (
  fm (z_inv (idx := 57) rfl (by decide +kernel) wd_1_184 wd_1_186 ws_0 wd_1_1 wd_1_187 (by decide +kernel) ⟨Nat.le_of_ble_eq_true rfl, Nat.le_of_ble_eq_true rfl⟩) (
  fm (z_goto (off := 4) (by decide +kernel) (by decide)) (
  fm (z_iconst (n := 0) (by decide +kernel) (by decide)) (
  fm (z_iret rfl (by decide +kernel)) (fn)))))))))))))))))))))))))
def kX4_as : Cd := [(0, s_iload 1 1), (1, s_invS mX4_isSpot 1 4), (4, s_if (fun x => x = 0) 14 7), (7, s_iload 2 8), (8, s_invS mX4_isKind 1 11), (11, s_if (fun x => x = 0) 14 20), (14, s_aload 0 15), (15, s_pushi 0 16), (16, s_inv mX4_finding 4 1 19), (19, s_iret), (20, s_aload 0 21), (21, s_getf 4 0 24), (24, s_getf 2 7 27), (27, s_iload 1 28), (28, s_iald 29), (29, s_istore 3 30), (30, s_aload 0 31), (31, s_iload 3 32), (32, s_inv mX4_isStall 4 1 35), (35, s_if (fun x => x = 0) 38 44), (38, s_aload 0 39), (39, s_pushi 5 40), (40, s_inv mX4_finding 4 1 43), (43, s_iret), (44, s_aload 0 45), (45, s_getf 4 0 48), (48, s_iload 3 49), (49, s_iload 2 50), (50, s_inv mX2_isOfKind 2 2 53), (53, s_if (fun x => x = 0) 60 56), (56, s_iload 3 57), (57, s_goto 65), (60, s_aload 0 61), (61, s_pushi 2 62), (62, s_inv mX4_finding 4 1 65), (65, s_iret)]
set_option maxRecDepth 20000 in
theorem zX4_as : ∀ q ∈ kX4_as, Snd RX4 cX4_as 4 (some .int) (rmM mX4_as) q.1 q.2 :=
  fm (z_iload_n (j := 1) (by decide +kernel) rfl) (
  fm (z_invS (idx := 215) (by decide +kernel) wd_3_145 wd_3_146 wd_1_1 wd_3_147 (by decide +kernel) ⟨Nat.le_of_ble_eq_true rfl, Nat.le_of_ble_eq_true rfl⟩) (
  fm (z_if_eq (off := 10) (by decide +kernel) (by decide)) (
  fm (z_iload_n (j := 2) (by decide +kernel) rfl) (
  fm (z_invS (idx := 71) (by decide +kernel) wd_1_201 wd_1_202 wd_1_1 wd_1_203 (by decide +kernel) ⟨Nat.le_of_ble_eq_true rfl, Nat.le_of_ble_eq_true rfl⟩) (
  fm (z_if_ne (off := 9) (by decide +kernel) (by decide)) (
  fm (z_aload_n (j := 0) (by decide +kernel) rfl) (
  fm (z_iconst (n := 0) (by decide +kernel) (by decide)) (
  fm (z_inv (idx := 57) rfl (by decide +kernel) wd_1_184 wd_1_186 ws_0 wd_1_1 wd_1_187 (by decide +kernel) ⟨Nat.le_of_ble_eq_true rfl, Nat.le_of_ble_eq_true rfl⟩) (
  fm (z_iret rfl (by decide +kernel)) (
  fm (z_aload_n (j := 0) (by decide +kernel) rfl) (
  fm (z_getf (idx := 10) awX4 rfl (by decide) wd_1_146 rfl (by decide +kernel)) (
  fm (z_getf (idx := 218) awX2 rfl (by decide) wd_1_49 rfl (by decide +kernel)) (
  fm (z_iload_n (j := 1) (by decide +kernel) rfl) (
  fm (z_iald (by decide +kernel)) (
  fm (z_istore_n (j := 3) (by decide +kernel) rfl (by decide)) (
  fm (z_aload_n (j := 0) (by decide +kernel) rfl) (
  fm (z_iload_n (j := 3) (by decide +kernel) rfl) (
  fm (z_inv (idx := 84) rfl (by decide +kernel) wd_1_216 wd_1_218 ws_1 wd_1_1 wd_1_219 (by decide +kernel) ⟨Nat.le_of_ble_eq_true rfl, Nat.le_of_ble_eq_true rfl⟩) (
  fm (z_if_ne (off := 9) (by decide +kernel) (by decide)) (
  fm (z_aload_n (j := 0) (by decide +kernel) rfl) (
  fm (z_iconst (n := 5) (by decide +kernel) (by decide)) (
  fm (z_inv (idx := 57) rfl (by decide +kernel) wd_1_184 wd_1_186 ws_0 wd_1_1 wd_1_187 (by decide +kernel) ⟨Nat.le_of_ble_eq_true rfl, Nat.le_of_ble_eq_true rfl⟩) (
  fm (z_iret rfl (by decide +kernel)) (
  fm (z_aload_n (j := 0) (by decide +kernel) rfl) (
  fm (z_getf (idx := 10) awX4 rfl (by decide) wd_1_146 rfl (by decide +kernel)) (
  fm (z_iload_n (j := 3) (by decide +kernel) rfl) (
  fm (z_iload_n (j := 2) (by decide +kernel) rfl) (
  fm (z_inv (idx := 221) rfl (by decide +kernel) wd_3_152 wd_3_153 wd_3_154 wd_1_2 wd_3_155 (by decide +kernel) ⟨Nat.le_of_ble_eq_true rfl, Nat.le_of_ble_eq_true rfl⟩) (
  fm (z_if_eq (off := 7) (by decide +kernel) (by decide)) (
  fm (z_iload_n (j := 3) (by decide +kernel) rfl) (
  fm (z_goto (off := 8) (by decide +kernel) (by decide)) (
  fm (z_aload_n (j := 0) (by decide +kernel) rfl) (
  fm (z_iconst (n := 2) (by decide +kernel) (by decide)) (
  fm (z_inv (idx := 57) rfl (by decide +kernel) wd_1_184 wd_1_186 ws_0 wd_1_1 wd_1_187 (by decide +kernel) ⟨Nat.le_of_ble_eq_true rfl, Nat.le_of_ble_eq_true rfl⟩) (
  fm (z_iret rfl (by decide +kernel)) (fn))))))))))))))))))))))))))))))))))))
def kX4_beside : Cd := [(0, s_aload 0 1), (1, s_iload 1 2), (2, s_inv mX4_isStall 4 1 5), (5, s_if (fun x => x = 0) 8 14), (8, s_aload 0 9), (9, s_pushi 0 10), (10, s_inv mX4_finding 4 1 13), (13, s_iret), (14, s_aload 0 15), (15, s_getf 4 0 18), (18, s_iload 1 19), (19, s_inv mX2_besideSet 2 1 22), (22, s_iret)]
set_option maxRecDepth 20000 in
theorem zX4_beside : ∀ q ∈ kX4_beside, Snd RX4 cX4_beside 2 (some .int) (rmM mX4_beside) q.1 q.2 :=
  fm (z_aload_n (j := 0) (by decide +kernel) rfl) (
  fm (z_iload_n (j := 1) (by decide +kernel) rfl) (
  fm (z_inv (idx := 84) rfl (by decide +kernel) wd_1_216 wd_1_218 ws_1 wd_1_1 wd_1_219 (by decide +kernel) ⟨Nat.le_of_ble_eq_true rfl, Nat.le_of_ble_eq_true rfl⟩) (
  fm (z_if_ne (off := 9) (by decide +kernel) (by decide)) (
  fm (z_aload_n (j := 0) (by decide +kernel) rfl) (
  fm (z_iconst (n := 0) (by decide +kernel) (by decide)) (
  fm (z_inv (idx := 57) rfl (by decide +kernel) wd_1_184 wd_1_186 ws_0 wd_1_1 wd_1_187 (by decide +kernel) ⟨Nat.le_of_ble_eq_true rfl, Nat.le_of_ble_eq_true rfl⟩) (
  fm (z_iret rfl (by decide +kernel)) (
  fm (z_aload_n (j := 0) (by decide +kernel) rfl) (
  fm (z_getf (idx := 10) awX4 rfl (by decide) wd_1_146 rfl (by decide +kernel)) (
  fm (z_iload_n (j := 1) (by decide +kernel) rfl) (
  fm (z_inv (idx := 184) rfl (by decide +kernel) wd_2_178 wd_2_179 wd_2_180 wd_1_2 wd_2_181 (by decide +kernel) ⟨Nat.le_of_ble_eq_true rfl, Nat.le_of_ble_eq_true rfl⟩) (
  fm (z_iret rfl (by decide +kernel)) (fn)))))))))))))
def kX4_best : Cd := [(0, s_aload 0 1), (1, s_aload 0 2), (2, s_iload 1 3), (3, s_inv mX4_isStall 4 1 6), (6, s_iload 2 7), (7, s_pushi 1 8), (8, s_pushi 48 10), (10, s_inv mX4_aheadFinding 4 4 13), (13, s_istore 3 14), (14, s_iload 3 15), (15, s_if (fun x => x = 0) 20 18), (18, s_iload 3 19), (19, s_iret), (20, s_pushi 0 21), (21, s_istore 4 23), (23, s_pushi (-1) 24), (24, s_istore 5 26), (26, s_pushi 0 27), (27, s_istore 6 29), (29, s_iload 6 31), (31, s_pushi 12 33), (33, s_icmp (fun x y => y ≤ x) 67 36), (36, s_aload 0 37), (37, s_iload 1 38), (38, s_iload 6 40), (40, s_iload 2 41), (41, s_inv mX4_coinFrom 4 3 44), (44, s_istore 7 46), (46, s_iload 7 48), (48, s_iload 5 50), (50, s_icmp (fun x y => x ≤ y) 61 53), (53, s_iload 7 55), (55, s_istore 5 57), (57, s_iload 6 59), (59, s_istore 4 61), (61, s_iinc 6 1 64), (64, s_goto 29), (67, s_iload 4 69), (69, s_iret)]
set_option maxRecDepth 20000 in
theorem zX4_best : ∀ q ∈ kX4_best, Snd RX4 cX4_best 8 (some .int) (rmM mX4_best) q.1 q.2 :=
  fm (z_aload_n (j := 0) (by decide +kernel) rfl) (
  fm (z_aload_n (j := 0) (by decide +kernel) rfl) (
  fm (z_iload_n (j := 1) (by decide +kernel) rfl) (
  fm (z_inv (idx := 84) rfl (by decide +kernel) wd_1_216 wd_1_218 ws_1 wd_1_1 wd_1_219 (by decide +kernel) ⟨Nat.le_of_ble_eq_true rfl, Nat.le_of_ble_eq_true rfl⟩) (
  fm (z_iload_n (j := 2) (by decide +kernel) rfl) (
  fm (z_iconst (n := 1) (by decide +kernel) (by decide)) (
  fm (z_bipush (n := 48) (by decide +kernel) (by decide)) (
  fm (z_inv (idx := 115) rfl (by decide +kernel) wd_2_22 wd_2_24 ws_3 wd_1_1 wd_2_25 (by decide +kernel) ⟨Nat.le_of_ble_eq_true rfl, Nat.le_of_ble_eq_true rfl⟩) (
  fm (z_istore_n (j := 3) (by decide +kernel) rfl (by decide)) (
  fm (z_iload_n (j := 3) (by decide +kernel) rfl) (
  fm (z_if_eq (off := 5) (by decide +kernel) (by decide)) (
  fm (z_iload_n (j := 3) (by decide +kernel) rfl) (
  fm (z_iret rfl (by decide +kernel)) (
  fm (z_iconst (n := 0) (by decide +kernel) (by decide)) (
  fm (z_istore (i := 4) (by decide +kernel) (by decide)) (
  fm (z_iconst (n := (-1)) (by decide +kernel) (by decide)) (
  fm (z_istore (i := 5) (by decide +kernel) (by decide)) (
  fm (z_iconst (n := 0) (by decide +kernel) (by decide)) (
  fm (z_istore (i := 6) (by decide +kernel) (by decide)) (
  fm (z_iload (i := 6) (by decide +kernel)) (
  fm (z_bipush (n := 12) (by decide +kernel) (by decide)) (
  fm (z_icmp_ge (off := 34) (by decide +kernel) (by decide)) (
  fm (z_aload_n (j := 0) (by decide +kernel) rfl) (
  fm (z_iload_n (j := 1) (by decide +kernel) rfl) (
  fm (z_iload (i := 6) (by decide +kernel)) (
  fm (z_iload_n (j := 2) (by decide +kernel) rfl) (
  fm (z_inv (idx := 195) rfl (by decide +kernel) wd_2_214 wd_2_216 ws_12 wd_1_1 wd_2_217 (by decide +kernel) ⟨Nat.le_of_ble_eq_true rfl, Nat.le_of_ble_eq_true rfl⟩) (
  fm (z_istore (i := 7) (by decide +kernel) (by decide)) (
  fm (z_iload (i := 7) (by decide +kernel)) (
  fm (z_iload (i := 5) (by decide +kernel)) (
  fm (z_icmp_le (off := 11) (by decide +kernel) (by decide)) (
  fm (z_iload (i := 7) (by decide +kernel)) (
  fm (z_istore (i := 5) (by decide +kernel) (by decide)) (
  fm (z_iload (i := 6) (by decide +kernel)) (
  fm (z_istore (i := 4) (by decide +kernel) (by decide)) (
  fm (z_iinc (n := 1) (by decide +kernel) (by decide) (by decide)) (
  fm (z_goto (off := (-35)) (by decide +kernel) (by decide)) (
  fm (z_iload (i := 4) (by decide +kernel)) (
  fm (z_iret rfl (by decide +kernel)) (fn)))))))))))))))))))))))))))))))))))))))
def kX4_change : Cd := [(0, s_aload 0 1), (1, s_iload 1 2), (2, s_inv mX4_isStall 4 1 5), (5, s_if (fun x => x = 0) 8 14), (8, s_aload 0 9), (9, s_pushi 0 10), (10, s_inv mX4_finding 4 1 13), (13, s_iret), (14, s_iload 2 15), (15, s_if (fun x => x = 0) 18 49), (18, s_iload 3 19), (19, s_invS mX4_isKind 1 22), (22, s_if (fun x => x = 0) 49 25), (25, s_aload 0 26), (26, s_getf 4 0 29), (29, s_getf 2 2 32), (32, s_iload 1 33), (33, s_iald 34), (34, s_istore 4 36), (36, s_aload 0 37), (37, s_getf 4 0 40), (40, s_getf 2 2 43), (43, s_iload 1 44), (44, s_iload 3 45), (45, s_iast 46), (46, s_iload 4 48), (48, s_iret), (49, s_iload 2 50), (50, s_pushi 2 51), (51, s_icmp (fun x y => x = y) 54 88), (54, s_iload 3 55), (55, s_if (fun x => x < 0) 88 58), (58, s_iload 3 59), (59, s_pushi 99 61), (61, s_icmp (fun x y => y < x) 88 64), (64, s_aload 0 65), (65, s_getf 4 0 68), (68, s_getf 2 4 71), (71, s_iload 1 72), (72, s_iald 73), (73, s_istore 4 75), (75, s_aload 0 76), (76, s_getf 4 0 79), (79, s_getf 2 4 82), (82, s_iload 1 83), (83, s_iload 3 84), (84, s_iast 85), (85, s_iload 4 87), (87, s_iret), (88, s_aload 0 89), (89, s_pushi 0 90), (90, s_inv mX4_finding 4 1 93), (93, s_iret)]
set_option maxRecDepth 20000 in
theorem zX4_change : ∀ q ∈ kX4_change, Snd RX4 cX4_change 5 (some .int) (rmM mX4_change) q.1 q.2 :=
  fm (z_aload_n (j := 0) (by decide +kernel) rfl) (
  fm (z_iload_n (j := 1) (by decide +kernel) rfl) (
  fm (z_inv (idx := 84) rfl (by decide +kernel) wd_1_216 wd_1_218 ws_1 wd_1_1 wd_1_219 (by decide +kernel) ⟨Nat.le_of_ble_eq_true rfl, Nat.le_of_ble_eq_true rfl⟩) (
  fm (z_if_ne (off := 9) (by decide +kernel) (by decide)) (
  fm (z_aload_n (j := 0) (by decide +kernel) rfl) (
  fm (z_iconst (n := 0) (by decide +kernel) (by decide)) (
  fm (z_inv (idx := 57) rfl (by decide +kernel) wd_1_184 wd_1_186 ws_0 wd_1_1 wd_1_187 (by decide +kernel) ⟨Nat.le_of_ble_eq_true rfl, Nat.le_of_ble_eq_true rfl⟩) (
  fm (z_iret rfl (by decide +kernel)) (
  fm (z_iload_n (j := 2) (by decide +kernel) rfl) (
  fm (z_if_ne (off := 34) (by decide +kernel) (by decide)) (
  fm (z_iload_n (j := 3) (by decide +kernel) rfl) (
  fm (z_invS (idx := 71) (by decide +kernel) wd_1_201 wd_1_202 wd_1_1 wd_1_203 (by decide +kernel) ⟨Nat.le_of_ble_eq_true rfl, Nat.le_of_ble_eq_true rfl⟩) (
  fm (z_if_eq (off := 27) (by decide +kernel) (by decide)) (
  fm (z_aload_n (j := 0) (by decide +kernel) rfl) (
  fm (z_getf (idx := 10) awX4 rfl (by decide) wd_1_146 rfl (by decide +kernel)) (
  fm (z_getf (idx := 87) awX2 rfl (by decide) wd_1_38 rfl (by decide +kernel)) (
  fm (z_iload_n (j := 1) (by decide +kernel) rfl) (
  fm (z_iald (by decide +kernel)) (
  fm (z_istore (i := 4) (by decide +kernel) (by decide)) (
  fm (z_aload_n (j := 0) (by decide +kernel) rfl) (
  fm (z_getf (idx := 10) awX4 rfl (by decide) wd_1_146 rfl (by decide +kernel)) (
  fm (z_getf (idx := 87) awX2 rfl (by decide) wd_1_38 rfl (by decide +kernel)) (
  fm (z_iload_n (j := 1) (by decide +kernel) rfl) (
  fm (z_iload_n (j := 3) (by decide +kernel) rfl) (
  fm (z_iast (by decide +kernel)) (
  fm (z_iload (i := 4) (by decide +kernel)) (
  fm (z_iret rfl (by decide +kernel)) (
  fm (z_iload_n (j := 2) (by decide +kernel) rfl) (
  fm (z_iconst (n := 2) (by decide +kernel) (by decide)) (
  fm (z_icmp_ne (off := 37) (by decide +kernel) (by decide)) (
  fm (z_iload_n (j := 3) (by decide +kernel) rfl) (
  fm (z_if_lt (off := 33) (by decide +kernel) (by decide)) (
  fm (z_iload_n (j := 3) (by decide +kernel) rfl) (
  fm (z_bipush (n := 99) (by decide +kernel) (by decide)) (
  fm (z_icmp_gt (off := 27) (by decide +kernel) (by decide)) (
  fm (z_aload_n (j := 0) (by decide +kernel) rfl) (
  fm (z_getf (idx := 10) awX4 rfl (by decide) wd_1_146 rfl (by decide +kernel)) (
  fm (z_getf (idx := 93) awX2 rfl (by decide) wd_1_42 rfl (by decide +kernel)) (
  fm (z_iload_n (j := 1) (by decide +kernel) rfl) (
  fm (z_iald (by decide +kernel)) (
  fm (z_istore (i := 4) (by decide +kernel) (by decide)) (
  fm (z_aload_n (j := 0) (by decide +kernel) rfl) (
  fm (z_getf (idx := 10) awX4 rfl (by decide) wd_1_146 rfl (by decide +kernel)) (
  fm (z_getf (idx := 93) awX2 rfl (by decide) wd_1_42 rfl (by decide +kernel)) (
  fm (z_iload_n (j := 1) (by decide +kernel) rfl) (
  fm (z_iload_n (j := 3) (by decide +kernel) rfl) (
  fm (z_iast (by decide +kernel)) (
  fm (z_iload (i := 4) (by decide +kernel)) (
  fm (z_iret rfl (by decide +kernel)) (
  fm (z_aload_n (j := 0) (by decide +kernel) rfl) (
  fm (z_iconst (n := 0) (by decide +kernel) (by decide)) (
  fm (z_inv (idx := 57) rfl (by decide +kernel) wd_1_184 wd_1_186 ws_0 wd_1_1 wd_1_187 (by decide +kernel) ⟨Nat.le_of_ble_eq_true rfl, Nat.le_of_ble_eq_true rfl⟩) (
  fm (z_iret rfl (by decide +kernel)) (fn)))))))))))))))))))))))))))))))))))))))))))))))))))))
def kX4_coinFrom : Cd := [(0, s_aload 0 1), (1, s_getf 4 1 4), (4, s_aload 0 5), (5, s_getf 4 0 8), (8, s_inv mX2_become 2 1 11), (11, s_aload 0 12), (12, s_getf 4 1 15), (15, s_iload 1 16), (16, s_iload 2 17), (17, s_inv mX2_bring 2 2 20), (20, s_aload 0 21), (21, s_getf 4 1 24), (24, s_iload 3 25), (25, s_inv mX2_passHours 2 1 28), (28, s_pop 29), (29, s_aload 0 30), (30, s_getf 4 1 33), (33, s_getf 2 5 36), (36, s_iload 1 37), (37, s_iald 38), (38, s_iret)]
set_option maxRecDepth 20000 in
theorem zX4_coinFrom : ∀ q ∈ kX4_coinFrom, Snd RX4 cX4_coinFrom 4 (some .int) (rmM mX4_coinFrom) q.1 q.2 :=
  fm (z_aload_n (j := 0) (by decide +kernel) rfl) (
  fm (z_getf (idx := 16) awX4 rfl (by decide) wd_1_147 rfl (by decide +kernel)) (
  fm (z_aload_n (j := 0) (by decide +kernel) rfl) (
  fm (z_getf (idx := 10) awX4 rfl (by decide) wd_1_146 rfl (by decide +kernel)) (
  fm (z_inv (idx := 122) rfl (by decide +kernel) wd_2_64 wd_2_65 wd_2_66 wd_1_2 wd_2_67 (by decide +kernel) ⟨Nat.le_of_ble_eq_true rfl, Nat.le_of_ble_eq_true rfl⟩) (
  fm (z_aload_n (j := 0) (by decide +kernel) rfl) (
  fm (z_getf (idx := 16) awX4 rfl (by decide) wd_1_147 rfl (by decide +kernel)) (
  fm (z_iload_n (j := 1) (by decide +kernel) rfl) (
  fm (z_iload_n (j := 2) (by decide +kernel) rfl) (
  fm (z_inv (idx := 277) rfl (by decide +kernel) wd_2_218 wd_2_219 wd_2_220 wd_1_2 wd_2_221 (by decide +kernel) ⟨Nat.le_of_ble_eq_true rfl, Nat.le_of_ble_eq_true rfl⟩) (
  fm (z_aload_n (j := 0) (by decide +kernel) rfl) (
  fm (z_getf (idx := 16) awX4 rfl (by decide) wd_1_147 rfl (by decide +kernel)) (
  fm (z_iload_n (j := 3) (by decide +kernel) rfl) (
  fm (z_inv (idx := 119) rfl (by decide +kernel) wd_2_26 wd_2_27 wd_2_28 wd_1_2 wd_2_29 (by decide +kernel) ⟨Nat.le_of_ble_eq_true rfl, Nat.le_of_ble_eq_true rfl⟩) (
  fm (z_pop (by decide +kernel)) (
  fm (z_aload_n (j := 0) (by decide +kernel) rfl) (
  fm (z_getf (idx := 16) awX4 rfl (by decide) wd_1_147 rfl (by decide +kernel)) (
  fm (z_getf (idx := 96) awX2 rfl (by decide) wd_1_45 rfl (by decide +kernel)) (
  fm (z_iload_n (j := 1) (by decide +kernel) rfl) (
  fm (z_iald (by decide +kernel)) (
  fm (z_iret rfl (by decide +kernel)) (fn)))))))))))))))))))))
def kX4_copy : Cd := [(0, s_iload 1 1), (1, s_invS mX4_isSheet 1 4), (4, s_if (fun x => x = 0) 14 7), (7, s_iload 3 8), (8, s_invS mX4_isSheet 1 11), (11, s_if (fun x => x = 0) 14 20), (14, s_aload 0 15), (15, s_pushi 0 16), (16, s_inv mX4_finding 4 1 19), (19, s_iret), (20, s_aload 0 21), (21, s_getf 4 6 24), (24, s_iload 1 25), (25, s_aald 26), (26, s_astore 6 28), (28, s_aload 0 29), (29, s_getf 4 6 32), (32, s_iload 3 33), (33, s_aald 34), (34, s_astore 7 36), (36, s_aload 6 38), (38, s_getf 1 1 41), (41, s_if (fun x => x = 0) 52 44), (44, s_aload 7 46), (46, s_getf 1 1 49), (49, s_if (fun x => x = 0) 52 58), (52, s_aload 0 53), (53, s_pushi 5 54), (54, s_inv mX4_finding 4 1 57), (57, s_iret), (58, s_aload 6 60), (60, s_getf 1 1 63), (63, s_aload 7 65), (65, s_getf 1 1 68), (68, s_icmp (fun x y => x = y) 77 71), (71, s_aload 0 72), (72, s_pushi 2 73), (73, s_inv mX4_finding 4 1 76), (76, s_iret), (77, s_aload 6 79), (79, s_iload 2 80), (80, s_iload 5 82), (82, s_inv mX1_hasPart 1 2 85), (85, s_if (fun x => x = 0) 100 88), (88, s_aload 7 90), (90, s_iload 4 92), (92, s_iload 5 94), (94, s_inv mX1_hasPart 1 2 97), (97, s_if (fun x => x = 0) 100 106), (100, s_aload 0 101), (101, s_pushi 0 102), (102, s_inv mX4_finding 4 1 105), (105, s_iret), (106, s_aload 6 108), (108, s_getf 1 0 111), (111, s_iload 2 112), (112, s_aload 7 114), (114, s_getf 1 0 117), (117, s_iload 4 119), (119, s_iload 5 121), (121, s_copy 124), (124, s_iload 5 126), (126, s_iret)]
set_option maxRecDepth 20000 in
theorem zX4_copy : ∀ q ∈ kX4_copy, Snd RX4 cX4_copy 8 (some .int) (rmM mX4_copy) q.1 q.2 :=
  fm (z_iload_n (j := 1) (by decide +kernel) rfl) (
  fm (z_invS (idx := 224) (by decide +kernel) wd_3_162 wd_3_163 wd_1_1 wd_3_164 (by decide +kernel) ⟨Nat.le_of_ble_eq_true rfl, Nat.le_of_ble_eq_true rfl⟩) (
  fm (z_if_eq (off := 10) (by decide +kernel) (by decide)) (
  fm (z_iload_n (j := 3) (by decide +kernel) rfl) (
  fm (z_invS (idx := 224) (by decide +kernel) wd_3_162 wd_3_163 wd_1_1 wd_3_164 (by decide +kernel) ⟨Nat.le_of_ble_eq_true rfl, Nat.le_of_ble_eq_true rfl⟩) (
  fm (z_if_ne (off := 9) (by decide +kernel) (by decide)) (
  fm (z_aload_n (j := 0) (by decide +kernel) rfl) (
  fm (z_iconst (n := 0) (by decide +kernel) (by decide)) (
  fm (z_inv (idx := 57) rfl (by decide +kernel) wd_1_184 wd_1_186 ws_0 wd_1_1 wd_1_187 (by decide +kernel) ⟨Nat.le_of_ble_eq_true rfl, Nat.le_of_ble_eq_true rfl⟩) (
  fm (z_iret rfl (by decide +kernel)) (
  fm (z_aload_n (j := 0) (by decide +kernel) rfl) (
  fm (z_getf (idx := 41) awX4 rfl (by decide) wd_1_152 rfl (by decide +kernel)) (
  fm (z_iload_n (j := 1) (by decide +kernel) rfl) (
  fm (z_aald (by decide +kernel)) (
  fm (z_astore (i := 6) (by decide +kernel) (by decide)) (
  fm (z_aload_n (j := 0) (by decide +kernel) rfl) (
  fm (z_getf (idx := 41) awX4 rfl (by decide) wd_1_152 rfl (by decide +kernel)) (
  fm (z_iload_n (j := 3) (by decide +kernel) rfl) (
  fm (z_aald (by decide +kernel)) (
  fm (z_astore (i := 7) (by decide +kernel) (by decide)) (
  fm (z_aload (i := 6) (by decide +kernel)) (
  fm (z_getf (idx := 235) awX1 rfl (by decide) wd_1_136 rfl (by decide +kernel)) (
  fm (z_if_eq (off := 11) (by decide +kernel) (by decide)) (
  fm (z_aload (i := 7) (by decide +kernel)) (
  fm (z_getf (idx := 235) awX1 rfl (by decide) wd_1_136 rfl (by decide +kernel)) (
  fm (z_if_ne (off := 9) (by decide +kernel) (by decide)) (
  fm (z_aload_n (j := 0) (by decide +kernel) rfl) (
  fm (z_iconst (n := 5) (by decide +kernel) (by decide)) (
  fm (z_inv (idx := 57) rfl (by decide +kernel) wd_1_184 wd_1_186 ws_0 wd_1_1 wd_1_187 (by decide +kernel) ⟨Nat.le_of_ble_eq_true rfl, Nat.le_of_ble_eq_true rfl⟩) (
  fm (z_iret rfl (by decide +kernel)) (
  fm (z_aload (i := 6) (by decide +kernel)) (
  fm (z_getf (idx := 235) awX1 rfl (by decide) wd_1_136 rfl (by decide +kernel)) (
  fm (z_aload (i := 7) (by decide +kernel)) (
  fm (z_getf (idx := 235) awX1 rfl (by decide) wd_1_136 rfl (by decide +kernel)) (
  fm (z_icmp_eq (off := 9) (by decide +kernel) (by decide)) (
  fm (z_aload_n (j := 0) (by decide +kernel) rfl) (
  fm (z_iconst (n := 2) (by decide +kernel) (by decide)) (
  fm (z_inv (idx := 57) rfl (by decide +kernel) wd_1_184 wd_1_186 ws_0 wd_1_1 wd_1_187 (by decide +kernel) ⟨Nat.le_of_ble_eq_true rfl, Nat.le_of_ble_eq_true rfl⟩) (
  fm (z_iret rfl (by decide +kernel)) (
  fm (z_aload (i := 6) (by decide +kernel)) (
  fm (z_iload_n (j := 2) (by decide +kernel) rfl) (
  fm (z_iload (i := 5) (by decide +kernel)) (
  fm (z_inv (idx := 238) rfl (by decide +kernel) wd_3_186 wd_3_187 wd_3_188 wd_1_6 wd_3_189 (by decide +kernel) ⟨Nat.le_of_ble_eq_true rfl, Nat.le_of_ble_eq_true rfl⟩) (
  fm (z_if_eq (off := 15) (by decide +kernel) (by decide)) (
  fm (z_aload (i := 7) (by decide +kernel)) (
  fm (z_iload (i := 4) (by decide +kernel)) (
  fm (z_iload (i := 5) (by decide +kernel)) (
  fm (z_inv (idx := 238) rfl (by decide +kernel) wd_3_186 wd_3_187 wd_3_188 wd_1_6 wd_3_189 (by decide +kernel) ⟨Nat.le_of_ble_eq_true rfl, Nat.le_of_ble_eq_true rfl⟩) (
  fm (z_if_ne (off := 9) (by decide +kernel) (by decide)) (
  fm (z_aload_n (j := 0) (by decide +kernel) rfl) (
  fm (z_iconst (n := 0) (by decide +kernel) (by decide)) (
  fm (z_inv (idx := 57) rfl (by decide +kernel) wd_1_184 wd_1_186 ws_0 wd_1_1 wd_1_187 (by decide +kernel) ⟨Nat.le_of_ble_eq_true rfl, Nat.le_of_ble_eq_true rfl⟩) (
  fm (z_iret rfl (by decide +kernel)) (
  fm (z_aload (i := 6) (by decide +kernel)) (
  fm (z_getf (idx := 241) awX1 rfl (by decide) wd_1_134 rfl (by decide +kernel)) (
  fm (z_iload_n (j := 2) (by decide +kernel) rfl) (
  fm (z_aload (i := 7) (by decide +kernel)) (
  fm (z_getf (idx := 241) awX1 rfl (by decide) wd_1_134 rfl (by decide +kernel)) (
  fm (z_iload (i := 4) (by decide +kernel)) (
  fm (z_iload (i := 5) (by decide +kernel)) (
  fm (z_copy (idx := 178) (by decide +kernel) wd_2_173 wd_2_70 wd_2_69 wd_1_9 (by decide)) (
  fm (z_iload (i := 5) (by decide +kernel)) (
  fm (z_iret rfl (by decide +kernel)) (fn)))))))))))))))))))))))))))))))))))))))))))))))))))))))))))))))
def kX4_count : Cd := [(0, s_iload 1 1), (1, s_sw [(0, 48), (1, 56), (2, 64), (3, 72), (4, 80), (5, 88), (6, 96), (7, 104)] 112), (48, s_aload 0 49), (49, s_getf 4 0 52), (52, s_getf 2 10 55), (55, s_iret), (56, s_aload 0 57), (57, s_getf 4 0 60), (60, s_getf 2 9 63), (63, s_iret), (64, s_aload 0 65), (65, s_getf 4 0 68), (68, s_inv mX2_allGoods 2 0 71), (71, s_iret), (72, s_aload 0 73), (73, s_getf 4 0 76), (76, s_inv mX2_allCoin 2 0 79), (79, s_iret), (80, s_aload 0 81), (81, s_getf 4 0 84), (84, s_inv mX2_allVisits 2 0 87), (87, s_iret), (88, s_aload 0 89), (89, s_getf 4 5 92), (92, s_getf 3 1 95), (95, s_iret), (96, s_aload 0 97), (97, s_getf 4 0 100), (100, s_getf 2 11 103), (103, s_iret), (104, s_aload 0 105), (105, s_getf 4 0 108), (108, s_inv mX2_spotsInUse 2 0 111), (111, s_iret), (112, s_aload 0 113), (113, s_pushi 0 114), (114, s_inv mX4_finding 4 1 117), (117, s_iret)]
set_option maxRecDepth 20000 in
theorem zX4_count : ∀ q ∈ kX4_count, Snd RX4 cX4_count 2 (some .int) (rmM mX4_count) q.1 q.2 :=
  fm (z_iload_n (j := 1) (by decide +kernel) rfl) (
  fm (z_tsw (dflt := 111) (lo := 0) (hi := 7) (offs := #[47, 55, 63, 71, 79, 87, 95, 103]) (len := 47) (by decide +kernel) (by decide) rfl (by decide) (by decide +kernel)) (
  fm (z_aload_n (j := 0) (by decide +kernel) rfl) (
  fm (z_getf (idx := 10) awX4 rfl (by decide) wd_1_146 rfl (by decide +kernel)) (
  fm (z_getf (idx := 261) awX2 rfl (by decide) wd_1_57 rfl (by decide +kernel)) (
  fm (z_iret rfl (by decide +kernel)) (
  fm (z_aload_n (j := 0) (by decide +kernel) rfl) (
  fm (z_getf (idx := 10) awX4 rfl (by decide) wd_1_146 rfl (by decide +kernel)) (
  fm (z_getf (idx := 77) awX2 rfl (by decide) wd_1_54 rfl (by decide +kernel)) (
  fm (z_iret rfl (by decide +kernel)) (
  fm (z_aload_n (j := 0) (by decide +kernel) rfl) (
  fm (z_getf (idx := 10) awX4 rfl (by decide) wd_1_146 rfl (by decide +kernel)) (
  fm (z_inv (idx := 264) rfl (by decide +kernel) wd_3_230 wd_3_231 wd_3_232 wd_1_2 wd_3_233 (by decide +kernel) ⟨Nat.le_of_ble_eq_true rfl, Nat.le_of_ble_eq_true rfl⟩) (
  fm (z_iret rfl (by decide +kernel)) (
  fm (z_aload_n (j := 0) (by decide +kernel) rfl) (
  fm (z_getf (idx := 10) awX4 rfl (by decide) wd_1_146 rfl (by decide +kernel)) (
  fm (z_inv (idx := 139) rfl (by decide +kernel) wd_2_85 wd_2_86 wd_2_87 wd_1_2 wd_2_88 (by decide +kernel) ⟨Nat.le_of_ble_eq_true rfl, Nat.le_of_ble_eq_true rfl⟩) (
  fm (z_iret rfl (by decide +kernel)) (
  fm (z_aload_n (j := 0) (by decide +kernel) rfl) (
  fm (z_getf (idx := 10) awX4 rfl (by decide) wd_1_146 rfl (by decide +kernel)) (
  fm (z_inv (idx := 267) rfl (by decide +kernel) wd_3_234 wd_3_235 wd_3_236 wd_1_2 wd_3_237 (by decide +kernel) ⟨Nat.le_of_ble_eq_true rfl, Nat.le_of_ble_eq_true rfl⟩) (
  fm (z_iret rfl (by decide +kernel)) (
  fm (z_aload_n (j := 0) (by decide +kernel) rfl) (
  fm (z_getf (idx := 35) awX4 rfl (by decide) wd_1_151 rfl (by decide +kernel)) (
  fm (z_getf (idx := 204) awX3 rfl (by decide) wd_1_108 rfl (by decide +kernel)) (
  fm (z_iret rfl (by decide +kernel)) (
  fm (z_aload_n (j := 0) (by decide +kernel) rfl) (
  fm (z_getf (idx := 10) awX4 rfl (by decide) wd_1_146 rfl (by decide +kernel)) (
  fm (z_getf (idx := 201) awX2 rfl (by decide) wd_1_59 rfl (by decide +kernel)) (
  fm (z_iret rfl (by decide +kernel)) (
  fm (z_aload_n (j := 0) (by decide +kernel) rfl) (
  fm (z_getf (idx := 10) awX4 rfl (by decide) wd_1_146 rfl (by decide +kernel)) (
  fm (z_inv (idx := 270) rfl (by decide +kernel) wd_3_238 wd_3_239 wd_4_0 wd_1_2 wd_4_1 (by decide +kernel) ⟨Nat.le_of_ble_eq_true rfl, Nat.le_of_ble_eq_true rfl⟩) (
  fm (z_iret rfl (by decide +kernel)) (
  fm (z_aload_n (j := 0) (by decide +kernel) rfl) (
  fm (z_iconst (n := 0) (by decide +kernel) (by decide)) (
  fm (z_inv (idx := 57) rfl (by decide +kernel) wd_1_184 wd_1_186 ws_0 wd_1_1 wd_1_187 (by decide +kernel) ⟨Nat.le_of_ble_eq_true rfl, Nat.le_of_ble_eq_true rfl⟩) (
  fm (z_iret rfl (by decide +kernel)) (fn))))))))))))))))))))))))))))))))))))))
def kX4_dawn : Cd := [(0, s_aload 0 1), (1, s_aload 0 2), (2, s_iload 1 3), (3, s_inv mX4_isStall 4 1 6), (6, s_if (fun x => x = 0) 20 9), (9, s_iload 2 10), (10, s_invS mX4_isPlace 1 13), (13, s_if (fun x => x = 0) 20 16), (16, s_pushi 1 17), (17, s_goto 21), (20, s_pushi 0 21), (21, s_iload 3 22), (22, s_pushi 0 23), (23, s_inv mX4_orderFinding 4 3 26), (26, s_istore 4 28), (28, s_iload 4 30), (30, s_if (fun x => x = 0) 36 33), (33, s_iload 4 35), (35, s_iret), (36, s_aload 0 37), (37, s_getf 4 3 40), (40, s_aload 0 41), (41, s_getf 4 0 44), (44, s_getf 2 9 47), (47, s_inv mX0_begin 0 1 50), (50, s_istore 5 52), (52, s_pushi 0 53), (53, s_istore 6 55), (55, s_iload 6 57), (57, s_iload 5 59), (59, s_icmp (fun x y => y ≤ x) 111 62), (62, s_aload 0 63), (63, s_inv mX4_tryOrder 4 0 66), (66, s_aload 0 67), (67, s_getf 4 1 70), (70, s_iload 3 71), (71, s_inv mX2_passHours 2 1 74), (74, s_pop 75), (75, s_aload 0 76), (76, s_getf 4 1 79), (79, s_getf 2 3 82), (82, s_iload 1 83), (83, s_iald 84), (84, s_iload 2 85), (85, s_icmp (fun x y => x = y) 88 98), (88, s_aload 0 89), (89, s_getf 4 3 92), (92, s_getf 0 0 95), (95, s_iload 1 96), (96, s_iald 97), (97, s_iret), (98, s_aload 0 99), (99, s_getf 4 3 102), (102, s_inv mX0_advance 0 0 105), (105, s_iinc 6 1 108), (108, s_goto 55), (111, s_aload 0 112), (112, s_pushi 3 113), (113, s_inv mX4_finding 4 1 116), (116, s_iret)]
set_option maxRecDepth 20000 in
theorem zX4_dawn : ∀ q ∈ kX4_dawn, Snd RX4 cX4_dawn 7 (some .int) (rmM mX4_dawn) q.1 q.2 :=
  fm (z_aload_n (j := 0) (by decide +kernel) rfl) (
  fm (z_aload_n (j := 0) (by decide +kernel) rfl) (
  fm (z_iload_n (j := 1) (by decide +kernel) rfl) (
  fm (z_inv (idx := 84) rfl (by decide +kernel) wd_1_216 wd_1_218 ws_1 wd_1_1 wd_1_219 (by decide +kernel) ⟨Nat.le_of_ble_eq_true rfl, Nat.le_of_ble_eq_true rfl⟩) (
  fm (z_if_eq (off := 14) (by decide +kernel) (by decide)) (
  fm (z_iload_n (j := 2) (by decide +kernel) rfl) (
  fm (z_invS (idx := 53) (by decide +kernel) wd_1_181 wd_1_182 wd_1_1 wd_1_183 (by decide +kernel) ⟨Nat.le_of_ble_eq_true rfl, Nat.le_of_ble_eq_true rfl⟩) (
  fm (z_if_eq (off := 7) (by decide +kernel) (by decide)) (
  fm (z_iconst (n := 1) (by decide +kernel) (by decide)) (
  fm (z_goto (off := 4) (by decide +kernel) (by decide)) (
  fm (z_iconst (n := 0) (by decide +kernel) (by decide)) (
  fm (z_iload_n (j := 3) (by decide +kernel) rfl) (
  fm (z_iconst (n := 0) (by decide +kernel) (by decide)) (
  fm (z_inv (idx := 155) rfl (by decide +kernel) wd_2_120 wd_2_122 ws_5 wd_1_1 wd_2_123 (by decide +kernel) ⟨Nat.le_of_ble_eq_true rfl, Nat.le_of_ble_eq_true rfl⟩) (
  fm (z_istore (i := 4) (by decide +kernel) (by decide)) (
  fm (z_iload (i := 4) (by decide +kernel)) (
  fm (z_if_eq (off := 6) (by decide +kernel) (by decide)) (
  fm (z_iload (i := 4) (by decide +kernel)) (
  fm (z_iret rfl (by decide +kernel)) (
  fm (z_aload_n (j := 0) (by decide +kernel) rfl) (
  fm (z_getf (idx := 25) awX4 rfl (by decide) wd_1_149 rfl (by decide +kernel)) (
  fm (z_aload_n (j := 0) (by decide +kernel) rfl) (
  fm (z_getf (idx := 10) awX4 rfl (by decide) wd_1_146 rfl (by decide +kernel)) (
  fm (z_getf (idx := 77) awX2 rfl (by decide) wd_1_54 rfl (by decide +kernel)) (
  fm (z_inv (idx := 165) rfl (by decide +kernel) wd_2_128 wd_2_129 wd_2_130 wd_1_4 wd_2_131 (by decide +kernel) ⟨Nat.le_of_ble_eq_true rfl, Nat.le_of_ble_eq_true rfl⟩) (
  fm (z_istore (i := 5) (by decide +kernel) (by decide)) (
  fm (z_iconst (n := 0) (by decide +kernel) (by decide)) (
  fm (z_istore (i := 6) (by decide +kernel) (by decide)) (
  fm (z_iload (i := 6) (by decide +kernel)) (
  fm (z_iload (i := 5) (by decide +kernel)) (
  fm (z_icmp_ge (off := 52) (by decide +kernel) (by decide)) (
  fm (z_aload_n (j := 0) (by decide +kernel) rfl) (
  fm (z_inv (idx := 168) rfl (by decide +kernel) wd_2_132 wd_2_134 ws_7 wd_1_1 wd_2_135 (by decide +kernel) ⟨Nat.le_of_ble_eq_true rfl, Nat.le_of_ble_eq_true rfl⟩) (
  fm (z_aload_n (j := 0) (by decide +kernel) rfl) (
  fm (z_getf (idx := 16) awX4 rfl (by decide) wd_1_147 rfl (by decide +kernel)) (
  fm (z_iload_n (j := 3) (by decide +kernel) rfl) (
  fm (z_inv (idx := 119) rfl (by decide +kernel) wd_2_26 wd_2_27 wd_2_28 wd_1_2 wd_2_29 (by decide +kernel) ⟨Nat.le_of_ble_eq_true rfl, Nat.le_of_ble_eq_true rfl⟩) (
  fm (z_pop (by decide +kernel)) (
  fm (z_aload_n (j := 0) (by decide +kernel) rfl) (
  fm (z_getf (idx := 16) awX4 rfl (by decide) wd_1_147 rfl (by decide +kernel)) (
  fm (z_getf (idx := 90) awX2 rfl (by decide) wd_1_40 rfl (by decide +kernel)) (
  fm (z_iload_n (j := 1) (by decide +kernel) rfl) (
  fm (z_iald (by decide +kernel)) (
  fm (z_iload_n (j := 2) (by decide +kernel) rfl) (
  fm (z_icmp_ne (off := 13) (by decide +kernel) (by decide)) (
  fm (z_aload_n (j := 0) (by decide +kernel) rfl) (
  fm (z_getf (idx := 25) awX4 rfl (by decide) wd_1_149 rfl (by decide +kernel)) (
  fm (z_getf (idx := 162) awX0 rfl (by decide) wd_1_93 rfl (by decide +kernel)) (
  fm (z_iload_n (j := 1) (by decide +kernel) rfl) (
  fm (z_iald (by decide +kernel)) (
  fm (z_iret rfl (by decide +kernel)) (
  fm (z_aload_n (j := 0) (by decide +kernel) rfl) (
  fm (z_getf (idx := 25) awX4 rfl (by decide) wd_1_149 rfl (by decide +kernel)) (
  fm (z_inv (idx := 171) rfl (by decide +kernel) wd_2_141 wd_2_142 wd_2_143 wd_1_4 wd_2_144 (by decide +kernel) ⟨Nat.le_of_ble_eq_true rfl, Nat.le_of_ble_eq_true rfl⟩) (
  fm (z_iinc (n := 1) (by decide +kernel) (by decide) (by decide)) (
  fm (z_goto (off := (-53)) (by decide +kernel) (by decide)) (
  fm (z_aload_n (j := 0) (by decide +kernel) rfl) (
  fm (z_iconst (n := 3) (by decide +kernel) (by decide)) (
  fm (z_inv (idx := 57) rfl (by decide +kernel) wd_1_184 wd_1_186 ws_0 wd_1_1 wd_1_187 (by decide +kernel) ⟨Nat.le_of_ble_eq_true rfl, Nat.le_of_ble_eq_true rfl⟩) (
  fm (z_iret rfl (by decide +kernel)) (fn))))))))))))))))))))))))))))))))))))))))))))))))))))))))))))
def kX4_deal : Cd := [(0, s_aload 0 1), (1, s_pushi 1 2), (2, s_iload 1 3), (3, s_pushi 1 4), (4, s_pushi 48 6), (6, s_inv mX4_aheadFinding 4 4 9), (9, s_istore 2 10), (10, s_iload 2 11), (11, s_if (fun x => x = 0) 16 14), (14, s_iload 2 15), (15, s_iret), (16, s_aload 0 17), (17, s_getf 4 1 20), (20, s_aload 0 21), (21, s_getf 4 0 24), (24, s_inv mX2_become 2 1 27), (27, s_aload 0 28), (28, s_getf 4 1 31), (31, s_iload 1 32), (32, s_inv mX2_passHours 2 1 35), (35, s_pop 36), (36, s_aload 0 37), (37, s_getf 4 1 40), (40, s_getf 2 5 43), (43, s_pushi 0 44), (44, s_aload 0 45), (45, s_getf 4 7 48), (48, s_pushi 0 49), (49, s_pushi 8 51), (51, s_copy 54), (54, s_pushi 0 55), (55, s_istore 3 56), (56, s_iload 3 57), (57, s_aload 0 58), (58, s_getf 4 0 61), (61, s_getf 2 9 64), (64, s_icmp (fun x y => y ≤ x) 150 67), (67, s_iload 3 68), (68, s_pushi 1 69), (69, s_bin (fun x y => x + y) 70), (70, s_istore 4 72), (72, s_iload 4 74), (74, s_aload 0 75), (75, s_getf 4 0 78), (78, s_getf 2 9 81), (81, s_icmp (fun x y => y ≤ x) 144 84), (84, s_aload 0 85), (85, s_iload 3 86), (86, s_iload 4 88), (88, s_iload 1 89), (89, s_inv mX4_swapAhead 4 3 92), (92, s_aload 0 93), (93, s_getf 4 1 96), (96, s_getf 2 5 99), (99, s_iload 3 100), (100, s_iald 101), (101, s_aload 0 102), (102, s_getf 4 7 105), (105, s_iload 3 106), (106, s_iald 107), (107, s_icmp (fun x y => x ≤ y) 138 110), (110, s_aload 0 111), (111, s_getf 4 1 114), (114, s_getf 2 5 117), (117, s_iload 4 119), (119, s_iald 120), (120, s_aload 0 121), (121, s_getf 4 7 124), (124, s_iload 4 126), (126, s_iald 127), (127, s_icmp (fun x y => x ≤ y) 138 130), (130, s_pushi 10 132), (132, s_iload 3 133), (133, s_bin (fun x y => x * y) 134), (134, s_iload 4 136), (136, s_bin (fun x y => x + y) 137), (137, s_iret), (138, s_iinc 4 1 141), (141, s_goto 72), (144, s_iinc 3 1 147), (147, s_goto 56), (150, s_aload 0 151), (151, s_pushi 3 152), (152, s_inv mX4_finding 4 1 155), (155, s_iret)]
set_option maxRecDepth 20000 in
theorem zX4_deal : ∀ q ∈ kX4_deal, Snd RX4 cX4_deal 5 (some .int) (rmM mX4_deal) q.1 q.2 :=
  fm (z_aload_n (j := 0) (by decide +kernel) rfl) (
  fm (z_iconst (n := 1) (by decide +kernel) (by decide)) (
  fm (z_iload_n (j := 1) (by decide +kernel) rfl) (
  fm (z_iconst (n := 1) (by decide +kernel) (by decide)) (
  fm (z_bipush (n := 48) (by decide +kernel) (by decide)) (
  fm (z_inv (idx := 115) rfl (by decide +kernel) wd_2_22 wd_2_24 ws_3 wd_1_1 wd_2_25 (by decide +kernel) ⟨Nat.le_of_ble_eq_true rfl, Nat.le_of_ble_eq_true rfl⟩) (
  fm (z_istore_n (j := 2) (by decide +kernel) rfl (by decide)) (
  fm (z_iload_n (j := 2) (by decide +kernel) rfl) (
  fm (z_if_eq (off := 5) (by decide +kernel) (by decide)) (
  fm (z_iload_n (j := 2) (by decide +kernel) rfl) (
  fm (z_iret rfl (by decide +kernel)) (
  fm (z_aload_n (j := 0) (by decide +kernel) rfl) (
  fm (z_getf (idx := 16) awX4 rfl (by decide) wd_1_147 rfl (by decide +kernel)) (
  fm (z_aload_n (j := 0) (by decide +kernel) rfl) (
  fm (z_getf (idx := 10) awX4 rfl (by decide) wd_1_146 rfl (by decide +kernel)) (
  fm (z_inv (idx := 122) rfl (by decide +kernel) wd_2_64 wd_2_65 wd_2_66 wd_1_2 wd_2_67 (by decide +kernel) ⟨Nat.le_of_ble_eq_true rfl, Nat.le_of_ble_eq_true rfl⟩) (
  fm (z_aload_n (j := 0) (by decide +kernel) rfl) (
  fm (z_getf (idx := 16) awX4 rfl (by decide) wd_1_147 rfl (by decide +kernel)) (
  fm (z_iload_n (j := 1) (by decide +kernel) rfl) (
  fm (z_inv (idx := 119) rfl (by decide +kernel) wd_2_26 wd_2_27 wd_2_28 wd_1_2 wd_2_29 (by decide +kernel) ⟨Nat.le_of_ble_eq_true rfl, Nat.le_of_ble_eq_true rfl⟩) (
  fm (z_pop (by decide +kernel)) (
  fm (z_aload_n (j := 0) (by decide +kernel) rfl) (
  fm (z_getf (idx := 16) awX4 rfl (by decide) wd_1_147 rfl (by decide +kernel)) (
  fm (z_getf (idx := 96) awX2 rfl (by decide) wd_1_45 rfl (by decide +kernel)) (
  fm (z_iconst (n := 0) (by decide +kernel) (by decide)) (
  fm (z_aload_n (j := 0) (by decide +kernel) rfl) (
  fm (z_getf (idx := 45) awX4 rfl (by decide) wd_1_153 rfl (by decide +kernel)) (
  fm (z_iconst (n := 0) (by decide +kernel) (by decide)) (
  fm (z_bipush (n := 8) (by decide +kernel) (by decide)) (
  fm (z_copy (idx := 178) (by decide +kernel) wd_2_173 wd_2_70 wd_2_69 wd_1_9 (by decide)) (
  fm (z_iconst (n := 0) (by decide +kernel) (by decide)) (
  fm (z_istore_n (j := 3) (by decide +kernel) rfl (by decide)) (
  fm (z_iload_n (j := 3) (by decide +kernel) rfl) (
  fm (z_aload_n (j := 0) (by decide +kernel) rfl) (
  fm (z_getf (idx := 10) awX4 rfl (by decide) wd_1_146 rfl (by decide +kernel)) (
  fm (z_getf (idx := 77) awX2 rfl (by decide) wd_1_54 rfl (by decide +kernel)) (
  fm (z_icmp_ge (off := 86) (by decide +kernel) (by decide)) (
  fm (z_iload_n (j := 3) (by decide +kernel) rfl) (
  fm (z_iconst (n := 1) (by decide +kernel) (by decide)) (
  fm (z_iadd (by decide +kernel)) (
  fm (z_istore (i := 4) (by decide +kernel) (by decide)) (
  fm (z_iload (i := 4) (by decide +kernel)) (
  fm (z_aload_n (j := 0) (by decide +kernel) rfl) (
  fm (z_getf (idx := 10) awX4 rfl (by decide) wd_1_146 rfl (by decide +kernel)) (
  fm (z_getf (idx := 77) awX2 rfl (by decide) wd_1_54 rfl (by decide +kernel)) (
  fm (z_icmp_ge (off := 63) (by decide +kernel) (by decide)) (
  fm (z_aload_n (j := 0) (by decide +kernel) rfl) (
  fm (z_iload_n (j := 3) (by decide +kernel) rfl) (
  fm (z_iload (i := 4) (by decide +kernel)) (
  fm (z_iload_n (j := 1) (by decide +kernel) rfl) (
  fm (z_inv (idx := 174) rfl (by decide +kernel) wd_2_165 wd_2_167 ws_9 wd_1_1 wd_2_168 (by decide +kernel) ⟨Nat.le_of_ble_eq_true rfl, Nat.le_of_ble_eq_true rfl⟩) (
  fm (z_aload_n (j := 0) (by decide +kernel) rfl) (
  fm (z_getf (idx := 16) awX4 rfl (by decide) wd_1_147 rfl (by decide +kernel)) (
  fm (z_getf (idx := 96) awX2 rfl (by decide) wd_1_45 rfl (by decide +kernel)) (
  fm (z_iload_n (j := 3) (by decide +kernel) rfl) (
  fm (z_iald (by decide +kernel)) (
  fm (z_aload_n (j := 0) (by decide +kernel) rfl) (
  fm (z_getf (idx := 45) awX4 rfl (by decide) wd_1_153 rfl (by decide +kernel)) (
  fm (z_iload_n (j := 3) (by decide +kernel) rfl) (
  fm (z_iald (by decide +kernel)) (
  fm (z_icmp_le (off := 31) (by decide +kernel) (by decide)) (
  fm (z_aload_n (j := 0) (by decide +kernel) rfl) (
  fm (z_getf (idx := 16) awX4 rfl (by decide) wd_1_147 rfl (by decide +kernel)) (
  fm (z_getf (idx := 96) awX2 rfl (by decide) wd_1_45 rfl (by decide +kernel)) (
  fm (z_iload (i := 4) (by decide +kernel)) (
  fm (z_iald (by decide +kernel)) (
  fm (z_aload_n (j := 0) (by decide +kernel) rfl) (
  fm (z_getf (idx := 45) awX4 rfl (by decide) wd_1_153 rfl (by decide +kernel)) (
  fm (z_iload (i := 4) (by decide +kernel)) (
  fm (z_iald (by decide +kernel)) (
  fm (z_icmp_le (off := 11) (by decide +kernel) (by decide)) (
  fm (z_bipush (n := 10) (by decide +kernel) (by decide)) (
  fm (z_iload_n (j := 3) (by decide +kernel) rfl) (
  fm (z_imul (by decide +kernel)) (
  fm (z_iload (i := 4) (by decide +kernel)) (
  fm (z_iadd (by decide +kernel)) (
  fm (z_iret rfl (by decide +kernel)) (
  fm (z_iinc (n := 1) (by decide +kernel) (by decide) (by decide)) (
  fm (z_goto (off := (-69)) (by decide +kernel) (by decide)) (
  fm (z_iinc (n := 1) (by decide +kernel) (by decide) (by decide)) (
  fm (z_goto (off := (-91)) (by decide +kernel) (by decide)) (
  fm (z_aload_n (j := 0) (by decide +kernel) rfl) (
  fm (z_iconst (n := 3) (by decide +kernel) (by decide)) (
  fm (z_inv (idx := 57) rfl (by decide +kernel) wd_1_184 wd_1_186 ws_0 wd_1_1 wd_1_187 (by decide +kernel) ⟨Nat.le_of_ble_eq_true rfl, Nat.le_of_ble_eq_true rfl⟩) (
  fm (z_iret rfl (by decide +kernel)) (fn)))))))))))))))))))))))))))))))))))))))))))))))))))))))))))))))))))))))))))))))))))))
def kX4_empty : Cd := [(0, s_aload 0 1), (1, s_aload 0 2), (2, s_iload 1 3), (3, s_inv mX4_isStall 4 1 6), (6, s_pushi 96 8), (8, s_pushi 0 9), (9, s_pushi 96 11), (11, s_inv mX4_aheadFinding 4 4 14), (14, s_istore 2 15), (15, s_iload 2 16), (16, s_if (fun x => x = 0) 21 19), (19, s_iload 2 20), (20, s_iret), (21, s_aload 0 22), (22, s_getf 4 1 25), (25, s_aload 0 26), (26, s_getf 4 0 29), (29, s_inv mX2_become 2 1 32), (32, s_pushi 0 33), (33, s_istore 3 34), (34, s_iload 3 35), (35, s_pushi 96 37), (37, s_icmp (fun x y => y < x) 68 40), (40, s_aload 0 41), (41, s_getf 4 1 44), (44, s_getf 2 4 47), (47, s_iload 1 48), (48, s_iald 49), (49, s_if (fun x => x = 0) 52 54), (52, s_iload 3 53), (53, s_iret), (54, s_aload 0 55), (55, s_getf 4 1 58), (58, s_inv mX2_passHour 2 0 61), (61, s_pop 62), (62, s_iinc 3 1 65), (65, s_goto 34), (68, s_aload 0 69), (69, s_pushi 3 70), (70, s_inv mX4_finding 4 1 73), (73, s_iret)]
set_option maxRecDepth 20000 in
theorem zX4_empty : ∀ q ∈ kX4_empty, Snd RX4 cX4_empty 4 (some .int) (rmM mX4_empty) q.1 q.2 :=
  fm (z_aload_n (j := 0) (by decide +kernel) rfl) (
  fm (z_aload_n (j := 0) (by decide +kernel) rfl) (
  fm (z_iload_n (j := 1) (by decide +kernel) rfl) (
  fm (z_inv (idx := 84) rfl (by decide +kernel) wd_1_216 wd_1_218 ws_1 wd_1_1 wd_1_219 (by decide +kernel) ⟨Nat.le_of_ble_eq_true rfl, Nat.le_of_ble_eq_true rfl⟩) (
  fm (z_bipush (n := 96) (by decide +kernel) (by decide)) (
  fm (z_iconst (n := 0) (by decide +kernel) (by decide)) (
  fm (z_bipush (n := 96) (by decide +kernel) (by decide)) (
  fm (z_inv (idx := 115) rfl (by decide +kernel) wd_2_22 wd_2_24 ws_3 wd_1_1 wd_2_25 (by decide +kernel) ⟨Nat.le_of_ble_eq_true rfl, Nat.le_of_ble_eq_true rfl⟩) (
  fm (z_istore_n (j := 2) (by decide +kernel) rfl (by decide)) (
  fm (z_iload_n (j := 2) (by decide +kernel) rfl) (
  fm (z_if_eq (off := 5) (by decide +kernel) (by decide)) (
  fm (z_iload_n (j := 2) (by decide +kernel) rfl) (
  fm (z_iret rfl (by decide +kernel)) (
  fm (z_aload_n (j := 0) (by decide +kernel) rfl) (
  fm (z_getf (idx := 16) awX4 rfl (by decide) wd_1_147 rfl (by decide +kernel)) (
  fm (z_aload_n (j := 0) (by decide +kernel) rfl) (
  fm (z_getf (idx := 10) awX4 rfl (by decide) wd_1_146 rfl (by decide +kernel)) (
  fm (z_inv (idx := 122) rfl (by decide +kernel) wd_2_64 wd_2_65 wd_2_66 wd_1_2 wd_2_67 (by decide +kernel) ⟨Nat.le_of_ble_eq_true rfl, Nat.le_of_ble_eq_true rfl⟩) (
  fm (z_iconst (n := 0) (by decide +kernel) (by decide)) (
  fm (z_istore_n (j := 3) (by decide +kernel) rfl (by decide)) (
  fm (z_iload_n (j := 3) (by decide +kernel) rfl) (
  fm (z_bipush (n := 96) (by decide +kernel) (by decide)) (
  fm (z_icmp_gt (off := 31) (by decide +kernel) (by decide)) (
  fm (z_aload_n (j := 0) (by decide +kernel) rfl) (
  fm (z_getf (idx := 16) awX4 rfl (by decide) wd_1_147 rfl (by decide +kernel)) (
  fm (z_getf (idx := 93) awX2 rfl (by decide) wd_1_42 rfl (by decide +kernel)) (
  fm (z_iload_n (j := 1) (by decide +kernel) rfl) (
  fm (z_iald (by decide +kernel)) (
  fm (z_if_ne (off := 5) (by decide +kernel) (by decide)) (
  fm (z_iload_n (j := 3) (by decide +kernel) rfl) (
  fm (z_iret rfl (by decide +kernel)) (
  fm (z_aload_n (j := 0) (by decide +kernel) rfl) (
  fm (z_getf (idx := 16) awX4 rfl (by decide) wd_1_147 rfl (by decide +kernel)) (
  fm (z_inv (idx := 142) rfl (by decide +kernel) wd_2_93 wd_2_31 wd_2_32 wd_1_2 wd_2_33 (by decide +kernel) ⟨Nat.le_of_ble_eq_true rfl, Nat.le_of_ble_eq_true rfl⟩) (
  fm (z_pop (by decide +kernel)) (
  fm (z_iinc (n := 1) (by decide +kernel) (by decide) (by decide)) (
  fm (z_goto (off := (-31)) (by decide +kernel) (by decide)) (
  fm (z_aload_n (j := 0) (by decide +kernel) rfl) (
  fm (z_iconst (n := 3) (by decide +kernel) (by decide)) (
  fm (z_inv (idx := 57) rfl (by decide +kernel) wd_1_184 wd_1_186 ws_0 wd_1_1 wd_1_187 (by decide +kernel) ⟨Nat.le_of_ble_eq_true rfl, Nat.le_of_ble_eq_true rfl⟩) (
  fm (z_iret rfl (by decide +kernel)) (fn)))))))))))))))))))))))))))))))))))))))))
def kX4_ever : Cd := [(0, s_aload 0 1), (1, s_aload 0 2), (2, s_iload 1 3), (3, s_inv mX4_isStall 4 1 6), (6, s_iload 2 7), (7, s_pushi 0 8), (8, s_pushi 96 10), (10, s_inv mX4_aheadFinding 4 4 13), (13, s_istore 3 14), (14, s_iload 3 15), (15, s_if (fun x => x = 0) 20 18), (18, s_iload 3 19), (19, s_iret), (20, s_aload 0 21), (21, s_getf 4 1 24), (24, s_aload 0 25), (25, s_getf 4 0 28), (28, s_inv mX2_become 2 1 31), (31, s_aload 0 32), (32, s_getf 4 1 35), (35, s_iload 1 36), (36, s_inv mX2_besideSet 2 1 39), (39, s_istore 4 41), (41, s_pushi 1 42), (42, s_istore 5 44), (44, s_iload 5 46), (46, s_iload 2 47), (47, s_icmp (fun x y => y < x) 77 50), (50, s_aload 0 51), (51, s_getf 4 1 54), (54, s_inv mX2_passHour 2 0 57), (57, s_pop 58), (58, s_iload 4 60), (60, s_aload 0 61), (61, s_getf 4 1 64), (64, s_iload 1 65), (65, s_inv mX2_besideSet 2 1 68), (68, s_bin (fun x y => x ||| y) 69), (69, s_istore 4 71), (71, s_iinc 5 1 74), (74, s_goto 44), (77, s_iload 4 79), (79, s_iret)]
set_option maxRecDepth 20000 in
theorem zX4_ever : ∀ q ∈ kX4_ever, Snd RX4 cX4_ever 6 (some .int) (rmM mX4_ever) q.1 q.2 :=
  fm (z_aload_n (j := 0) (by decide +kernel) rfl) (
  fm (z_aload_n (j := 0) (by decide +kernel) rfl) (
  fm (z_iload_n (j := 1) (by decide +kernel) rfl) (
  fm (z_inv (idx := 84) rfl (by decide +kernel) wd_1_216 wd_1_218 ws_1 wd_1_1 wd_1_219 (by decide +kernel) ⟨Nat.le_of_ble_eq_true rfl, Nat.le_of_ble_eq_true rfl⟩) (
  fm (z_iload_n (j := 2) (by decide +kernel) rfl) (
  fm (z_iconst (n := 0) (by decide +kernel) (by decide)) (
  fm (z_bipush (n := 96) (by decide +kernel) (by decide)) (
  fm (z_inv (idx := 115) rfl (by decide +kernel) wd_2_22 wd_2_24 ws_3 wd_1_1 wd_2_25 (by decide +kernel) ⟨Nat.le_of_ble_eq_true rfl, Nat.le_of_ble_eq_true rfl⟩) (
  fm (z_istore_n (j := 3) (by decide +kernel) rfl (by decide)) (
  fm (z_iload_n (j := 3) (by decide +kernel) rfl) (
  fm (z_if_eq (off := 5) (by decide +kernel) (by decide)) (
  fm (z_iload_n (j := 3) (by decide +kernel) rfl) (
  fm (z_iret rfl (by decide +kernel)) (
  fm (z_aload_n (j := 0) (by decide +kernel) rfl) (
  fm (z_getf (idx := 16) awX4 rfl (by decide) wd_1_147 rfl (by decide +kernel)) (
  fm (z_aload_n (j := 0) (by decide +kernel) rfl) (
  fm (z_getf (idx := 10) awX4 rfl (by decide) wd_1_146 rfl (by decide +kernel)) (
  fm (z_inv (idx := 122) rfl (by decide +kernel) wd_2_64 wd_2_65 wd_2_66 wd_1_2 wd_2_67 (by decide +kernel) ⟨Nat.le_of_ble_eq_true rfl, Nat.le_of_ble_eq_true rfl⟩) (
  fm (z_aload_n (j := 0) (by decide +kernel) rfl) (
  fm (z_getf (idx := 16) awX4 rfl (by decide) wd_1_147 rfl (by decide +kernel)) (
  fm (z_iload_n (j := 1) (by decide +kernel) rfl) (
  fm (z_inv (idx := 184) rfl (by decide +kernel) wd_2_178 wd_2_179 wd_2_180 wd_1_2 wd_2_181 (by decide +kernel) ⟨Nat.le_of_ble_eq_true rfl, Nat.le_of_ble_eq_true rfl⟩) (
  fm (z_istore (i := 4) (by decide +kernel) (by decide)) (
  fm (z_iconst (n := 1) (by decide +kernel) (by decide)) (
  fm (z_istore (i := 5) (by decide +kernel) (by decide)) (
  fm (z_iload (i := 5) (by decide +kernel)) (
  fm (z_iload_n (j := 2) (by decide +kernel) rfl) (
  fm (z_icmp_gt (off := 30) (by decide +kernel) (by decide)) (
  fm (z_aload_n (j := 0) (by decide +kernel) rfl) (
  fm (z_getf (idx := 16) awX4 rfl (by decide) wd_1_147 rfl (by decide +kernel)) (
  fm (z_inv (idx := 142) rfl (by decide +kernel) wd_2_93 wd_2_31 wd_2_32 wd_1_2 wd_2_33 (by decide +kernel) ⟨Nat.le_of_ble_eq_true rfl, Nat.le_of_ble_eq_true rfl⟩) (
  fm (z_pop (by decide +kernel)) (
  fm (z_iload (i := 4) (by decide +kernel)) (
  fm (z_aload_n (j := 0) (by decide +kernel) rfl) (
  fm (z_getf (idx := 16) awX4 rfl (by decide) wd_1_147 rfl (by decide +kernel)) (
  fm (z_iload_n (j := 1) (by decide +kernel) rfl) (
  fm (z_inv (idx := 184) rfl (by decide +kernel) wd_2_178 wd_2_179 wd_2_180 wd_1_2 wd_2_181 (by decide +kernel) ⟨Nat.le_of_ble_eq_true rfl, Nat.le_of_ble_eq_true rfl⟩) (
  fm (z_ior (by decide +kernel)) (
  fm (z_istore (i := 4) (by decide +kernel) (by decide)) (
  fm (z_iinc (n := 1) (by decide +kernel) (by decide) (by decide)) (
  fm (z_goto (off := (-30)) (by decide +kernel) (by decide)) (
  fm (z_iload (i := 4) (by decide +kernel)) (
  fm (z_iret rfl (by decide +kernel)) (fn)))))))))))))))))))))))))))))))))))))))))))
def kX4_feed : Cd := [(0, s_iload 2 1), (1, s_pushi 1 2), (2, s_icmp (fun x y => x < y) 10 5), (5, s_iload 2 6), (6, s_pushi 4 7), (7, s_icmp (fun x y => x ≤ y) 16 10), (10, s_aload 0 11), (11, s_pushi 0 12), (12, s_inv mX4_finding 4 1 15), (15, s_iret), (16, s_aload 0 17), (17, s_getf 4 5 20), (20, s_getf 3 1 23), (23, s_iload 2 24), (24, s_bin (fun x y => x + y) 25), (25, s_pushi 120 27), (27, s_icmp (fun x y => x ≤ y) 36 30), (30, s_aload 0 31), (31, s_pushi 1 32), (32, s_inv mX4_finding 4 1 35), (35, s_iret), (36, s_iload 2 37), (37, s_pushi 1 38), (38, s_bin (fun x y => x - y) 39), (39, s_istore 3 40), (40, s_iload 3 41), (41, s_if (fun x => x < 0) 67 44), (44, s_aload 0 45), (45, s_getf 4 5 48), (48, s_iload 1 49), (49, s_pushi 8 51), (51, s_iload 3 52), (52, s_bin (fun x y => x * y) 53), (53, s_bin (fun x y => (x.toUInt32 >>> (y.toUInt32 &&& Int32.toUInt32 31)).toInt32) 54), (54, s_pushi 255 57), (57, s_bin (fun x y => x &&& y) 58), (58, s_inv mX3_put 3 1 61), (61, s_iinc 3 (-1) 64), (64, s_goto 40), (67, s_aload 0 68), (68, s_getf 4 5 71), (71, s_getf 3 1 74), (74, s_iret)]
set_option maxRecDepth 20000 in
theorem zX4_feed : ∀ q ∈ kX4_feed, Snd RX4 cX4_feed 4 (some .int) (rmM mX4_feed) q.1 q.2 :=
  fm (z_iload_n (j := 2) (by decide +kernel) rfl) (
  fm (z_iconst (n := 1) (by decide +kernel) (by decide)) (
  fm (z_icmp_lt (off := 8) (by decide +kernel) (by decide)) (
  fm (z_iload_n (j := 2) (by decide +kernel) rfl) (
  fm (z_iconst (n := 4) (by decide +kernel) (by decide)) (
  fm (z_icmp_le (off := 9) (by decide +kernel) (by decide)) (
  fm (z_aload_n (j := 0) (by decide +kernel) rfl) (
  fm (z_iconst (n := 0) (by decide +kernel) (by decide)) (
  fm (z_inv (idx := 57) rfl (by decide +kernel) wd_1_184 wd_1_186 ws_0 wd_1_1 wd_1_187 (by decide +kernel) ⟨Nat.le_of_ble_eq_true rfl, Nat.le_of_ble_eq_true rfl⟩) (
  fm (z_iret rfl (by decide +kernel)) (
  fm (z_aload_n (j := 0) (by decide +kernel) rfl) (
  fm (z_getf (idx := 35) awX4 rfl (by decide) wd_1_151 rfl (by decide +kernel)) (
  fm (z_getf (idx := 204) awX3 rfl (by decide) wd_1_108 rfl (by decide +kernel)) (
  fm (z_iload_n (j := 2) (by decide +kernel) rfl) (
  fm (z_iadd (by decide +kernel)) (
  fm (z_bipush (n := 120) (by decide +kernel) (by decide)) (
  fm (z_icmp_le (off := 9) (by decide +kernel) (by decide)) (
  fm (z_aload_n (j := 0) (by decide +kernel) rfl) (
  fm (z_iconst (n := 1) (by decide +kernel) (by decide)) (
  fm (z_inv (idx := 57) rfl (by decide +kernel) wd_1_184 wd_1_186 ws_0 wd_1_1 wd_1_187 (by decide +kernel) ⟨Nat.le_of_ble_eq_true rfl, Nat.le_of_ble_eq_true rfl⟩) (
  fm (z_iret rfl (by decide +kernel)) (
  fm (z_iload_n (j := 2) (by decide +kernel) rfl) (
  fm (z_iconst (n := 1) (by decide +kernel) (by decide)) (
  fm (z_isub (by decide +kernel)) (
  fm (z_istore_n (j := 3) (by decide +kernel) rfl (by decide)) (
  fm (z_iload_n (j := 3) (by decide +kernel) rfl) (
  fm (z_if_lt (off := 26) (by decide +kernel) (by decide)) (
  fm (z_aload_n (j := 0) (by decide +kernel) rfl) (
  fm (z_getf (idx := 35) awX4 rfl (by decide) wd_1_151 rfl (by decide +kernel)) (
  fm (z_iload_n (j := 1) (by decide +kernel) rfl) (
  fm (z_bipush (n := 8) (by decide +kernel) (by decide)) (
  fm (z_iload_n (j := 3) (by decide +kernel) rfl) (
  fm (z_imul (by decide +kernel)) (
  fm (z_iushr (by decide +kernel)) (
  fm (z_sipush (n := 255) (by decide +kernel) (by decide)) (
  fm (z_iand (by decide +kernel)) (
  fm (z_inv (idx := 207) rfl (by decide +kernel) wd_3_8 wd_3_9 wd_3_10 wd_1_5 wd_3_11 (by decide +kernel) ⟨Nat.le_of_ble_eq_true rfl, Nat.le_of_ble_eq_true rfl⟩) (
  fm (z_iinc (n := (-1)) (by decide +kernel) (by decide) (by decide)) (
  fm (z_goto (off := (-24)) (by decide +kernel) (by decide)) (
  fm (z_aload_n (j := 0) (by decide +kernel) rfl) (
  fm (z_getf (idx := 35) awX4 rfl (by decide) wd_1_151 rfl (by decide +kernel)) (
  fm (z_getf (idx := 204) awX3 rfl (by decide) wd_1_108 rfl (by decide +kernel)) (
  fm (z_iret rfl (by decide +kernel)) (fn)))))))))))))))))))))))))))))))))))))))))))
def kX4_finding : Cd := [(0, s_aload 0 1), (1, s_getf 4 8 4), (4, s_iload 1 5), (5, s_dup2 6), (6, s_iald 7), (7, s_pushi 1 8), (8, s_bin (fun x y => x + y) 9), (9, s_iast 10), (10, s_pushi (-1000001) 13), (13, s_iload 1 14), (14, s_bin (fun x y => x - y) 15), (15, s_iret)]
set_option maxRecDepth 20000 in
theorem zX4_finding : ∀ q ∈ kX4_finding, Snd RX4 cX4_finding 2 (some .int) (rmM mX4_finding) q.1 q.2 :=
  fm (z_aload_n (j := 0) (by decide +kernel) rfl) (
  fm (z_getf (idx := 49) awX4 rfl (by decide) wd_1_154 rfl (by decide +kernel)) (
  fm (z_iload_n (j := 1) (by decide +kernel) rfl) (
  fm (z_dup2 (by decide +kernel)) (
  fm (z_iald (by decide +kernel)) (
  fm (z_iconst (n := 1) (by decide +kernel) (by decide)) (
  fm (z_iadd (by decide +kernel)) (
  fm (z_iast (by decide +kernel)) (
  fm (z_ldcw (i := 273) (by decide +kernel) wd_1_188) (
  fm (z_iload_n (j := 1) (by decide +kernel) rfl) (
  fm (z_isub (by decide +kernel)) (
  fm (z_iret rfl (by decide +kernel)) (fn))))))))))))
def kX4_firstBeside : Cd := [(0, s_pushi 0 1), (1, s_istore 4 3), (3, s_iload 4 5), (5, s_iload 3 6), (6, s_icmp (fun x y => y < x) 38 9), (9, s_aload 0 10), (10, s_getf 4 1 13), (13, s_iload 1 14), (14, s_iload 2 15), (15, s_inv mX2_areBeside 2 2 18), (18, s_if (fun x => x = 0) 24 21), (21, s_iload 4 23), (23, s_iret), (24, s_aload 0 25), (25, s_getf 4 1 28), (28, s_inv mX2_passHour 2 0 31), (31, s_pop 32), (32, s_iinc 4 1 35), (35, s_goto 3), (38, s_pushi (-1) 39), (39, s_iret)]
set_option maxRecDepth 20000 in
theorem zX4_firstBeside : ∀ q ∈ kX4_firstBeside, Snd RX4 cX4_firstBeside 5 (some .int) (rmM mX4_firstBeside) q.1 q.2 :=
  fm (z_iconst (n := 0) (by decide +kernel) (by decide)) (
  fm (z_istore (i := 4) (by decide +kernel) (by decide)) (
  fm (z_iload (i := 4) (by decide +kernel)) (
  fm (z_iload_n (j := 3) (by decide +kernel) rfl) (
  fm (z_icmp_gt (off := 32) (by decide +kernel) (by decide)) (
  fm (z_aload_n (j := 0) (by decide +kernel) rfl) (
  fm (z_getf (idx := 16) awX4 rfl (by decide) wd_1_147 rfl (by decide +kernel)) (
  fm (z_iload_n (j := 1) (by decide +kernel) rfl) (
  fm (z_iload_n (j := 2) (by decide +kernel) rfl) (
  fm (z_inv (idx := 280) rfl (by decide +kernel) wd_2_205 wd_2_183 wd_2_184 wd_1_2 wd_2_185 (by decide +kernel) ⟨Nat.le_of_ble_eq_true rfl, Nat.le_of_ble_eq_true rfl⟩) (
  fm (z_if_eq (off := 6) (by decide +kernel) (by decide)) (
  fm (z_iload (i := 4) (by decide +kernel)) (
  fm (z_iret rfl (by decide +kernel)) (
  fm (z_aload_n (j := 0) (by decide +kernel) rfl) (
  fm (z_getf (idx := 16) awX4 rfl (by decide) wd_1_147 rfl (by decide +kernel)) (
  fm (z_inv (idx := 142) rfl (by decide +kernel) wd_2_93 wd_2_31 wd_2_32 wd_1_2 wd_2_33 (by decide +kernel) ⟨Nat.le_of_ble_eq_true rfl, Nat.le_of_ble_eq_true rfl⟩) (
  fm (z_pop (by decide +kernel)) (
  fm (z_iinc (n := 1) (by decide +kernel) (by decide) (by decide)) (
  fm (z_goto (off := (-32)) (by decide +kernel) (by decide)) (
  fm (z_iconst (n := (-1)) (by decide +kernel) (by decide)) (
  fm (z_iret rfl (by decide +kernel)) (fn)))))))))))))))))))))
def kX4_fit : Cd := [(0, s_aload 0 1), (1, s_iload 1 2), (2, s_inv mX4_sheetFinding 4 1 5), (5, s_istore 2 6), (6, s_iload 2 7), (7, s_if (fun x => x = 0) 10 19), (10, s_aload 0 11), (11, s_pushi 1 12), (12, s_pushi 24 14), (14, s_pushi 0 15), (15, s_inv mX4_orderFinding 4 3 18), (18, s_istore 2 19), (19, s_iload 2 20), (20, s_if (fun x => x = 0) 25 23), (23, s_iload 2 24), (24, s_iret), (25, s_aload 0 26), (26, s_aload 0 27), (27, s_getf 4 6 30), (30, s_iload 1 31), (31, s_aald 32), (32, s_inv mX4_lastWordHour 4 1 35), (35, s_istore 3 36), (36, s_iload 3 37), (37, s_if (fun x => 0 ≤ x) 42 40), (40, s_pushi 0 41), (41, s_iret), (42, s_pushi 0 43), (43, s_istore 4 45), (45, s_aload 0 46), (46, s_getf 4 3 49), (49, s_aload 0 50), (50, s_getf 4 0 53), (53, s_getf 2 9 56), (56, s_inv mX0_begin 0 1 59), (59, s_istore 5 61), (61, s_pushi 0 62), (62, s_istore 6 64), (64, s_iload 6 66), (66, s_iload 5 68), (68, s_icmp (fun x y => y ≤ x) 105 71), (71, s_aload 0 72), (72, s_inv mX4_tryOrder 4 0 75), (75, s_aload 0 76), (76, s_aload 0 77), (77, s_getf 4 6 80), (80, s_iload 1 81), (81, s_aald 82), (82, s_iload 3 83), (83, s_inv mX4_wordsAreSo 4 2 86), (86, s_if (fun x => x = 0) 92 89), (89, s_iinc 4 1 92), (92, s_aload 0 93), (93, s_getf 4 3 96), (96, s_inv mX0_advance 0 0 99), (99, s_iinc 6 1 102), (102, s_goto 64), (105, s_iload 4 107), (107, s_iret)]
set_option maxRecDepth 20000 in
theorem zX4_fit : ∀ q ∈ kX4_fit, Snd RX4 cX4_fit 7 (some .int) (rmM mX4_fit) q.1 q.2 :=
  fm (z_aload_n (j := 0) (by decide +kernel) rfl) (
  fm (z_iload_n (j := 1) (by decide +kernel) rfl) (
  fm (z_inv (idx := 230) rfl (by decide +kernel) wd_3_174 wd_3_176 ws_25 wd_1_1 wd_3_177 (by decide +kernel) ⟨Nat.le_of_ble_eq_true rfl, Nat.le_of_ble_eq_true rfl⟩) (
  fm (z_istore_n (j := 2) (by decide +kernel) rfl (by decide)) (
  fm (z_iload_n (j := 2) (by decide +kernel) rfl) (
  fm (z_if_ne (off := 12) (by decide +kernel) (by decide)) (
  fm (z_aload_n (j := 0) (by decide +kernel) rfl) (
  fm (z_iconst (n := 1) (by decide +kernel) (by decide)) (
  fm (z_bipush (n := 24) (by decide +kernel) (by decide)) (
  fm (z_iconst (n := 0) (by decide +kernel) (by decide)) (
  fm (z_inv (idx := 155) rfl (by decide +kernel) wd_2_120 wd_2_122 ws_5 wd_1_1 wd_2_123 (by decide +kernel) ⟨Nat.le_of_ble_eq_true rfl, Nat.le_of_ble_eq_true rfl⟩) (
  fm (z_istore_n (j := 2) (by decide +kernel) rfl (by decide)) (
  fm (z_iload_n (j := 2) (by decide +kernel) rfl) (
  fm (z_if_eq (off := 5) (by decide +kernel) (by decide)) (
  fm (z_iload_n (j := 2) (by decide +kernel) rfl) (
  fm (z_iret rfl (by decide +kernel)) (
  fm (z_aload_n (j := 0) (by decide +kernel) rfl) (
  fm (z_aload_n (j := 0) (by decide +kernel) rfl) (
  fm (z_getf (idx := 41) awX4 rfl (by decide) wd_1_152 rfl (by decide +kernel)) (
  fm (z_iload_n (j := 1) (by decide +kernel) rfl) (
  fm (z_aald (by decide +kernel)) (
  fm (z_inv (idx := 249) rfl (by decide +kernel) wd_3_199 wd_3_201 ws_26 wd_1_1 wd_3_202 (by decide +kernel) ⟨Nat.le_of_ble_eq_true rfl, Nat.le_of_ble_eq_true rfl⟩) (
  fm (z_istore_n (j := 3) (by decide +kernel) rfl (by decide)) (
  fm (z_iload_n (j := 3) (by decide +kernel) rfl) (
  fm (z_if_ge (off := 5) (by decide +kernel) (by decide)) (
  fm (z_iconst (n := 0) (by decide +kernel) (by decide)) (
  fm (z_iret rfl (by decide +kernel)) (
  fm (z_iconst (n := 0) (by decide +kernel) (by decide)) (
  fm (z_istore (i := 4) (by decide +kernel) (by decide)) (
  fm (z_aload_n (j := 0) (by decide +kernel) rfl) (
  fm (z_getf (idx := 25) awX4 rfl (by decide) wd_1_149 rfl (by decide +kernel)) (
  fm (z_aload_n (j := 0) (by decide +kernel) rfl) (
  fm (z_getf (idx := 10) awX4 rfl (by decide) wd_1_146 rfl (by decide +kernel)) (
  fm (z_getf (idx := 77) awX2 rfl (by decide) wd_1_54 rfl (by decide +kernel)) (
  fm (z_inv (idx := 165) rfl (by decide +kernel) wd_2_128 wd_2_129 wd_2_130 wd_1_4 wd_2_131 (by decide +kernel) ⟨Nat.le_of_ble_eq_true rfl, Nat.le_of_ble_eq_true rfl⟩) (
  fm (z_istore (i := 5) (by decide +kernel) (by decide)) (
  fm (z_iconst (n := 0) (by decide +kernel) (by decide)) (
  fm (z_istore (i := 6) (by decide +kernel) (by decide)) (
  fm (z_iload (i := 6) (by decide +kernel)) (
  fm (z_iload (i := 5) (by decide +kernel)) (
  fm (z_icmp_ge (off := 37) (by decide +kernel) (by decide)) (
  fm (z_aload_n (j := 0) (by decide +kernel) rfl) (
  fm (z_inv (idx := 168) rfl (by decide +kernel) wd_2_132 wd_2_134 ws_7 wd_1_1 wd_2_135 (by decide +kernel) ⟨Nat.le_of_ble_eq_true rfl, Nat.le_of_ble_eq_true rfl⟩) (
  fm (z_aload_n (j := 0) (by decide +kernel) rfl) (
  fm (z_aload_n (j := 0) (by decide +kernel) rfl) (
  fm (z_getf (idx := 41) awX4 rfl (by decide) wd_1_152 rfl (by decide +kernel)) (
  fm (z_iload_n (j := 1) (by decide +kernel) rfl) (
  fm (z_aald (by decide +kernel)) (
  fm (z_iload_n (j := 3) (by decide +kernel) rfl) (
  fm (z_inv (idx := 253) rfl (by decide +kernel) wd_3_206 wd_3_208 ws_27 wd_1_1 wd_3_209 (by decide +kernel) ⟨Nat.le_of_ble_eq_true rfl, Nat.le_of_ble_eq_true rfl⟩) (
  fm (z_if_eq (off := 6) (by decide +kernel) (by decide)) (
  fm (z_iinc (n := 1) (by decide +kernel) (by decide) (by decide)) (
  fm (z_aload_n (j := 0) (by decide +kernel) rfl) (
  fm (z_getf (idx := 25) awX4 rfl (by decide) wd_1_149 rfl (by decide +kernel)) (
  fm (z_inv (idx := 171) rfl (by decide +kernel) wd_2_141 wd_2_142 wd_2_143 wd_1_4 wd_2_144 (by decide +kernel) ⟨Nat.le_of_ble_eq_true rfl, Nat.le_of_ble_eq_true rfl⟩) (
  fm (z_iinc (n := 1) (by decide +kernel) (by decide) (by decide)) (
  fm (z_goto (off := (-38)) (by decide +kernel) (by decide)) (
  fm (z_iload (i := 4) (by decide +kernel)) (
  fm (z_iret rfl (by decide +kernel)) (fn)))))))))))))))))))))))))))))))))))))))))))))))))))))))))))
def kX4_hold : Cd := [(0, s_iload 1 1), (1, s_invS mX4_isSpot 1 4), (4, s_if (fun x => x = 0) 23 7), (7, s_iload 2 8), (8, s_pushi (-1) 9), (9, s_icmp (fun x y => x < y) 23 12), (12, s_iload 2 13), (13, s_aload 0 14), (14, s_getf 4 0 17), (17, s_getf 2 9 20), (20, s_icmp (fun x y => x < y) 29 23), (23, s_aload 0 24), (24, s_pushi 0 25), (25, s_inv mX4_finding 4 1 28), (28, s_iret), (29, s_aload 0 30), (30, s_getf 4 0 33), (33, s_getf 2 7 36), (36, s_iload 1 37), (37, s_iload 2 38), (38, s_iast 39), (39, s_pushi 1 40), (40, s_iret)]
set_option maxRecDepth 20000 in
theorem zX4_hold : ∀ q ∈ kX4_hold, Snd RX4 cX4_hold 3 (some .int) (rmM mX4_hold) q.1 q.2 :=
  fm (z_iload_n (j := 1) (by decide +kernel) rfl) (
  fm (z_invS (idx := 215) (by decide +kernel) wd_3_145 wd_3_146 wd_1_1 wd_3_147 (by decide +kernel) ⟨Nat.le_of_ble_eq_true rfl, Nat.le_of_ble_eq_true rfl⟩) (
  fm (z_if_eq (off := 19) (by decide +kernel) (by decide)) (
  fm (z_iload_n (j := 2) (by decide +kernel) rfl) (
  fm (z_iconst (n := (-1)) (by decide +kernel) (by decide)) (
  fm (z_icmp_lt (off := 14) (by decide +kernel) (by decide)) (
  fm (z_iload_n (j := 2) (by decide +kernel) rfl) (
  fm (z_aload_n (j := 0) (by decide +kernel) rfl) (
  fm (z_getf (idx := 10) awX4 rfl (by decide) wd_1_146 rfl (by decide +kernel)) (
  fm (z_getf (idx := 77) awX2 rfl (by decide) wd_1_54 rfl (by decide +kernel)) (
  fm (z_icmp_lt (off := 9) (by decide +kernel) (by decide)) (
  fm (z_aload_n (j := 0) (by decide +kernel) rfl) (
  fm (z_iconst (n := 0) (by decide +kernel) (by decide)) (
  fm (z_inv (idx := 57) rfl (by decide +kernel) wd_1_184 wd_1_186 ws_0 wd_1_1 wd_1_187 (by decide +kernel) ⟨Nat.le_of_ble_eq_true rfl, Nat.le_of_ble_eq_true rfl⟩) (
  fm (z_iret rfl (by decide +kernel)) (
  fm (z_aload_n (j := 0) (by decide +kernel) rfl) (
  fm (z_getf (idx := 10) awX4 rfl (by decide) wd_1_146 rfl (by decide +kernel)) (
  fm (z_getf (idx := 218) awX2 rfl (by decide) wd_1_49 rfl (by decide +kernel)) (
  fm (z_iload_n (j := 1) (by decide +kernel) rfl) (
  fm (z_iload_n (j := 2) (by decide +kernel) rfl) (
  fm (z_iast (by decide +kernel)) (
  fm (z_iconst (n := 1) (by decide +kernel) (by decide)) (
  fm (z_iret rfl (by decide +kernel)) (fn)))))))))))))))))))))))
def kX4_hours : Cd := [(0, s_aload 0 1), (1, s_pushi 1 2), (2, s_iload 1 3), (3, s_pushi 1 4), (4, s_pushi 48 6), (6, s_inv mX4_aheadFinding 4 4 9), (9, s_istore 2 10), (10, s_iload 2 11), (11, s_if (fun x => x = 0) 18 14), (14, s_iload 2 15), (15, s_goto 26), (18, s_aload 0 19), (19, s_getf 4 0 22), (22, s_iload 1 23), (23, s_inv mX2_passHours 2 1 26), (26, s_iret)]
set_option maxRecDepth 20000 in
theorem zX4_hours : ∀ q ∈ kX4_hours, Snd RX4 cX4_hours 3 (some .int) (rmM mX4_hours) q.1 q.2 :=
  fm (z_aload_n (j := 0) (by decide +kernel) rfl) (
  fm (z_iconst (n := 1) (by decide +kernel) (by decide)) (
  fm (z_iload_n (j := 1) (by decide +kernel) rfl) (
  fm (z_iconst (n := 1) (by decide +kernel) (by decide)) (
  fm (z_bipush (n := 48) (by decide +kernel) (by decide)) (
  fm (z_inv (idx := 115) rfl (by decide +kernel) wd_2_22 wd_2_24 ws_3 wd_1_1 wd_2_25 (by decide +kernel) ⟨Nat.le_of_ble_eq_true rfl, Nat.le_of_ble_eq_true rfl⟩) (
  fm (z_istore_n (j := 2) (by decide +kernel) rfl (by decide)) (
  fm (z_iload_n (j := 2) (by decide +kernel) rfl) (
  fm (z_if_eq (off := 7) (by decide +kernel) (by decide)) (
  fm (z_iload_n (j := 2) (by decide +kernel) rfl) (
  fm (z_goto (off := 11) (by decide +kernel) (by decide)) (
  fm (z_aload_n (j := 0) (by decide +kernel) rfl) (
  fm (z_getf (idx := 10) awX4 rfl (by decide) wd_1_146 rfl (by decide +kernel)) (
  fm (z_iload_n (j := 1) (by decide +kernel) rfl) (
  fm (z_inv (idx := 119) rfl (by decide +kernel) wd_2_26 wd_2_27 wd_2_28 wd_1_2 wd_2_29 (by decide +kernel) ⟨Nat.le_of_ble_eq_true rfl, Nat.le_of_ble_eq_true rfl⟩) (
  fm (z_iret rfl (by decide +kernel)) (fn))))))))))))))))
def kX4_image : Cd := [(0, s_aload 0 1), (1, s_getf 4 2 4), (4, s_aload 0 5), (5, s_getf 4 0 8), (8, s_inv mX2_become 2 1 11), (11, s_aload 0 12), (12, s_pushi 1 13), (13, s_putf .boolean 4 9 16), (16, s_pushi 1 17), (17, s_iret)]
set_option maxRecDepth 20000 in
theorem zX4_image : ∀ q ∈ kX4_image, Snd RX4 cX4_image 1 (some .int) (rmM mX4_image) q.1 q.2 :=
  fm (z_aload_n (j := 0) (by decide +kernel) rfl) (
  fm (z_getf (idx := 19) awX4 rfl (by decide) wd_1_148 rfl (by decide +kernel)) (
  fm (z_aload_n (j := 0) (by decide +kernel) rfl) (
  fm (z_getf (idx := 10) awX4 rfl (by decide) wd_1_146 rfl (by decide +kernel)) (
  fm (z_inv (idx := 122) rfl (by decide +kernel) wd_2_64 wd_2_65 wd_2_66 wd_1_2 wd_2_67 (by decide +kernel) ⟨Nat.le_of_ble_eq_true rfl, Nat.le_of_ble_eq_true rfl⟩) (
  fm (z_aload_n (j := 0) (by decide +kernel) rfl) (
  fm (z_iconst (n := 1) (by decide +kernel) (by decide)) (
  fm (z_putf (idx := 257) tyX4 tyX4_ok nmX4 awX4 rfl (by decide) wd_1_155 rfl rfl (by decide +kernel) (by decide +kernel)) (
  fm (z_iconst (n := 1) (by decide +kernel) (by decide)) (
  fm (z_iret rfl (by decide +kernel)) (fn))))))))))
def kX4_isKind : Cd := [(0, s_iload 0 1), (1, s_if (fun x => x < 0) 14 4), (4, s_iload 0 5), (5, s_pushi 7 7), (7, s_icmp (fun x y => y ≤ x) 14 10), (10, s_pushi 1 11), (11, s_goto 15), (14, s_pushi 0 15), (15, s_zret)]
set_option maxRecDepth 20000 in
theorem zX4_isKind : ∀ q ∈ kX4_isKind, Snd RX4 cX4_isKind 1 (some .boolean) (rmM mX4_isKind) q.1 q.2 :=
  fm (z_iload_n (j := 0) (by decide +kernel) rfl) (
  fm (z_if_lt (off := 13) (by decide +kernel) (by decide)) (
  fm (z_iload_n (j := 0) (by decide +kernel) rfl) (
  fm (z_bipush (n := 7) (by decide +kernel) (by decide)) (
  fm (z_icmp_ge (off := 7) (by decide +kernel) (by decide)) (
  fm (z_iconst (n := 1) (by decide +kernel) (by decide)) (
  fm (z_goto (off := 4) (by decide +kernel) (by decide)) (
  fm (z_iconst (n := 0) (by decide +kernel) (by decide)) (
  fm (z_zret rfl (by decide +kernel)) (fn)))))))))
def kX4_isPair : Cd := [(0, s_aload 0 1), (1, s_iload 1 2), (2, s_inv mX4_isStall 4 1 5), (5, s_if (fun x => x = 0) 25 8), (8, s_aload 0 9), (9, s_iload 2 10), (10, s_inv mX4_isStall 4 1 13), (13, s_if (fun x => x = 0) 25 16), (16, s_iload 1 17), (17, s_iload 2 18), (18, s_icmp (fun x y => x = y) 25 21), (21, s_pushi 1 22), (22, s_goto 26), (25, s_pushi 0 26), (26, s_zret)]
set_option maxRecDepth 20000 in
theorem zX4_isPair : ∀ q ∈ kX4_isPair, Snd RX4 cX4_isPair 3 (some .boolean) (rmM mX4_isPair) q.1 q.2 :=
  fm (z_aload_n (j := 0) (by decide +kernel) rfl) (
  fm (z_iload_n (j := 1) (by decide +kernel) rfl) (
  fm (z_inv (idx := 84) rfl (by decide +kernel) wd_1_216 wd_1_218 ws_1 wd_1_1 wd_1_219 (by decide +kernel) ⟨Nat.le_of_ble_eq_true rfl, Nat.le_of_ble_eq_true rfl⟩) (
  fm (z_if_eq (off := 20) (by decide +kernel) (by decide)) (
  fm (z_aload_n (j := 0) (by decide +kernel) rfl) (
  fm (z_iload_n (j := 2) (by decide +kernel) rfl) (
  fm (z_inv (idx := 84) rfl (by decide +kernel) wd_1_216 wd_1_218 ws_1 wd_1_1 wd_1_219 (by decide +kernel) ⟨Nat.le_of_ble_eq_true rfl, Nat.le_of_ble_eq_true rfl⟩) (
  fm (z_if_eq (off := 12) (by decide +kernel) (by decide)) (
  fm (z_iload_n (j := 1) (by decide +kernel) rfl) (
  fm (z_iload_n (j := 2) (by decide +kernel) rfl) (
  fm (z_icmp_eq (off := 7) (by decide +kernel) (by decide)) (
  fm (z_iconst (n := 1) (by decide +kernel) (by decide)) (
  fm (z_goto (off := 4) (by decide +kernel) (by decide)) (
  fm (z_iconst (n := 0) (by decide +kernel) (by decide)) (
  fm (z_zret rfl (by decide +kernel)) (fn)))))))))))))))
def kX4_isPlace : Cd := [(0, s_iload 0 1), (1, s_if (fun x => x < 0) 14 4), (4, s_iload 0 5), (5, s_pushi 12 7), (7, s_icmp (fun x y => y ≤ x) 14 10), (10, s_pushi 1 11), (11, s_goto 15), (14, s_pushi 0 15), (15, s_zret)]
set_option maxRecDepth 20000 in
theorem zX4_isPlace : ∀ q ∈ kX4_isPlace, Snd RX4 cX4_isPlace 1 (some .boolean) (rmM mX4_isPlace) q.1 q.2 :=
  fm (z_iload_n (j := 0) (by decide +kernel) rfl) (
  fm (z_if_lt (off := 13) (by decide +kernel) (by decide)) (
  fm (z_iload_n (j := 0) (by decide +kernel) rfl) (
  fm (z_bipush (n := 12) (by decide +kernel) (by decide)) (
  fm (z_icmp_ge (off := 7) (by decide +kernel) (by decide)) (
  fm (z_iconst (n := 1) (by decide +kernel) (by decide)) (
  fm (z_goto (off := 4) (by decide +kernel) (by decide)) (
  fm (z_iconst (n := 0) (by decide +kernel) (by decide)) (
  fm (z_zret rfl (by decide +kernel)) (fn)))))))))
def kX4_isSheet : Cd := [(0, s_iload 0 1), (1, s_if (fun x => x < 0) 13 4), (4, s_iload 0 5), (5, s_pushi 4 6), (6, s_icmp (fun x y => y ≤ x) 13 9), (9, s_pushi 1 10), (10, s_goto 14), (13, s_pushi 0 14), (14, s_zret)]
set_option maxRecDepth 20000 in
theorem zX4_isSheet : ∀ q ∈ kX4_isSheet, Snd RX4 cX4_isSheet 1 (some .boolean) (rmM mX4_isSheet) q.1 q.2 :=
  fm (z_iload_n (j := 0) (by decide +kernel) rfl) (
  fm (z_if_lt (off := 12) (by decide +kernel) (by decide)) (
  fm (z_iload_n (j := 0) (by decide +kernel) rfl) (
  fm (z_iconst (n := 4) (by decide +kernel) (by decide)) (
  fm (z_icmp_ge (off := 7) (by decide +kernel) (by decide)) (
  fm (z_iconst (n := 1) (by decide +kernel) (by decide)) (
  fm (z_goto (off := 4) (by decide +kernel) (by decide)) (
  fm (z_iconst (n := 0) (by decide +kernel) (by decide)) (
  fm (z_zret rfl (by decide +kernel)) (fn)))))))))
def kX4_isSpot : Cd := [(0, s_iload 0 1), (1, s_if (fun x => x < 0) 14 4), (4, s_iload 0 5), (5, s_pushi 10 7), (7, s_icmp (fun x y => y ≤ x) 14 10), (10, s_pushi 1 11), (11, s_goto 15), (14, s_pushi 0 15), (15, s_zret)]
set_option maxRecDepth 20000 in
theorem zX4_isSpot : ∀ q ∈ kX4_isSpot, Snd RX4 cX4_isSpot 1 (some .boolean) (rmM mX4_isSpot) q.1 q.2 :=
  fm (z_iload_n (j := 0) (by decide +kernel) rfl) (
  fm (z_if_lt (off := 13) (by decide +kernel) (by decide)) (
  fm (z_iload_n (j := 0) (by decide +kernel) rfl) (
  fm (z_bipush (n := 10) (by decide +kernel) (by decide)) (
  fm (z_icmp_ge (off := 7) (by decide +kernel) (by decide)) (
  fm (z_iconst (n := 1) (by decide +kernel) (by decide)) (
  fm (z_goto (off := 4) (by decide +kernel) (by decide)) (
  fm (z_iconst (n := 0) (by decide +kernel) (by decide)) (
  fm (z_zret rfl (by decide +kernel)) (fn)))))))))
def kX4_isStall : Cd := [(0, s_iload 1 1), (1, s_if (fun x => x < 0) 19 4), (4, s_iload 1 5), (5, s_aload 0 6), (6, s_getf 4 0 9), (9, s_getf 2 9 12), (12, s_icmp (fun x y => y ≤ x) 19 15), (15, s_pushi 1 16), (16, s_goto 20), (19, s_pushi 0 20), (20, s_zret)]
set_option maxRecDepth 20000 in
theorem zX4_isStall : ∀ q ∈ kX4_isStall, Snd RX4 cX4_isStall 2 (some .boolean) (rmM mX4_isStall) q.1 q.2 :=
  fm (z_iload_n (j := 1) (by decide +kernel) rfl) (
  fm (z_if_lt (off := 18) (by decide +kernel) (by decide)) (
  fm (z_iload_n (j := 1) (by decide +kernel) rfl) (
  fm (z_aload_n (j := 0) (by decide +kernel) rfl) (
  fm (z_getf (idx := 10) awX4 rfl (by decide) wd_1_146 rfl (by decide +kernel)) (
  fm (z_getf (idx := 77) awX2 rfl (by decide) wd_1_54 rfl (by decide +kernel)) (
  fm (z_icmp_ge (off := 7) (by decide +kernel) (by decide)) (
  fm (z_iconst (n := 1) (by decide +kernel) (by decide)) (
  fm (z_goto (off := 4) (by decide +kernel) (by decide)) (
  fm (z_iconst (n := 0) (by decide +kernel) (by decide)) (
  fm (z_zret rfl (by decide +kernel)) (fn)))))))))))
def kX4_judge : Cd := [(0, s_aload 0 1), (1, s_iload 1 2), (2, s_inv mX4_sheetFinding 4 1 5), (5, s_istore 3 6), (6, s_iload 3 7), (7, s_if (fun x => x = 0) 10 20), (10, s_aload 0 11), (11, s_pushi 1 12), (12, s_iload 2 13), (13, s_pushi 0 14), (14, s_pushi 96 16), (16, s_inv mX4_aheadFinding 4 4 19), (19, s_istore 3 20), (20, s_iload 3 21), (21, s_if (fun x => x = 0) 26 24), (24, s_iload 3 25), (25, s_iret), (26, s_aload 0 27), (27, s_getf 4 1 30), (30, s_aload 0 31), (31, s_getf 4 0 34), (34, s_inv mX2_become 2 1 37), (37, s_aload 0 38), (38, s_getf 4 1 41), (41, s_iload 2 42), (42, s_inv mX2_passHours 2 1 45), (45, s_pop 46), (46, s_aload 0 47), (47, s_getf 4 6 50), (50, s_iload 1 51), (51, s_aald 52), (52, s_getf 1 2 55), (55, s_pushi 12 57), (57, s_min 60), (60, s_istore 4 62), (62, s_pushi 0 63), (63, s_istore 5 65), (65, s_iload 5 67), (67, s_iload 4 69), (69, s_icmp (fun x y => y ≤ x) 102 72), (72, s_aload 0 73), (73, s_getf 4 6 76), (76, s_iload 1 77), (77, s_aald 78), (78, s_getf 1 0 81), (81, s_iload 5 83), (83, s_iald 84), (84, s_aload 0 85), (85, s_getf 4 1 88), (88, s_iload 5 90), (90, s_inv mX2_stallAt 2 1 93), (93, s_icmp (fun x y => x = y) 96 102), (96, s_iinc 5 1 99), (99, s_goto 65), (102, s_iload 5 104), (104, s_pushi 12 106), (106, s_icmp (fun x y => x = y) 109 127), (109, s_aload 0 110), (110, s_getf 4 6 113), (113, s_iload 1 114), (114, s_aald 115), (115, s_getf 1 2 118), (118, s_pushi 12 120), (120, s_icmp (fun x y => x = y) 123 127), (123, s_pushi 0 124), (124, s_goto 131), (127, s_pushi 1 128), (128, s_iload 5 130), (130, s_bin (fun x y => x + y) 131), (131, s_iret)]
set_option maxRecDepth 20000 in
theorem zX4_judge : ∀ q ∈ kX4_judge, Snd RX4 cX4_judge 6 (some .int) (rmM mX4_judge) q.1 q.2 :=
  fm (z_aload_n (j := 0) (by decide +kernel) rfl) (
  fm (z_iload_n (j := 1) (by decide +kernel) rfl) (
  fm (z_inv (idx := 230) rfl (by decide +kernel) wd_3_174 wd_3_176 ws_25 wd_1_1 wd_3_177 (by decide +kernel) ⟨Nat.le_of_ble_eq_true rfl, Nat.le_of_ble_eq_true rfl⟩) (
  fm (z_istore_n (j := 3) (by decide +kernel) rfl (by decide)) (
  fm (z_iload_n (j := 3) (by decide +kernel) rfl) (
  fm (z_if_ne (off := 13) (by decide +kernel) (by decide)) (
  fm (z_aload_n (j := 0) (by decide +kernel) rfl) (
  fm (z_iconst (n := 1) (by decide +kernel) (by decide)) (
  fm (z_iload_n (j := 2) (by decide +kernel) rfl) (
  fm (z_iconst (n := 0) (by decide +kernel) (by decide)) (
  fm (z_bipush (n := 96) (by decide +kernel) (by decide)) (
  fm (z_inv (idx := 115) rfl (by decide +kernel) wd_2_22 wd_2_24 ws_3 wd_1_1 wd_2_25 (by decide +kernel) ⟨Nat.le_of_ble_eq_true rfl, Nat.le_of_ble_eq_true rfl⟩) (
  fm (z_istore_n (j := 3) (by decide +kernel) rfl (by decide)) (
  fm (z_iload_n (j := 3) (by decide +kernel) rfl) (
  fm (z_if_eq (off := 5) (by decide +kernel) (by decide)) (
  fm (z_iload_n (j := 3) (by decide +kernel) rfl) (
  fm (z_iret rfl (by decide +kernel)) (
  fm (z_aload_n (j := 0) (by decide +kernel) rfl) (
  fm (z_getf (idx := 16) awX4 rfl (by decide) wd_1_147 rfl (by decide +kernel)) (
  fm (z_aload_n (j := 0) (by decide +kernel) rfl) (
  fm (z_getf (idx := 10) awX4 rfl (by decide) wd_1_146 rfl (by decide +kernel)) (
  fm (z_inv (idx := 122) rfl (by decide +kernel) wd_2_64 wd_2_65 wd_2_66 wd_1_2 wd_2_67 (by decide +kernel) ⟨Nat.le_of_ble_eq_true rfl, Nat.le_of_ble_eq_true rfl⟩) (
  fm (z_aload_n (j := 0) (by decide +kernel) rfl) (
  fm (z_getf (idx := 16) awX4 rfl (by decide) wd_1_147 rfl (by decide +kernel)) (
  fm (z_iload_n (j := 2) (by decide +kernel) rfl) (
  fm (z_inv (idx := 119) rfl (by decide +kernel) wd_2_26 wd_2_27 wd_2_28 wd_1_2 wd_2_29 (by decide +kernel) ⟨Nat.le_of_ble_eq_true rfl, Nat.le_of_ble_eq_true rfl⟩) (
  fm (z_pop (by decide +kernel)) (
  fm (z_aload_n (j := 0) (by decide +kernel) rfl) (
  fm (z_getf (idx := 41) awX4 rfl (by decide) wd_1_152 rfl (by decide +kernel)) (
  fm (z_iload_n (j := 1) (by decide +kernel) rfl) (
  fm (z_aald (by decide +kernel)) (
  fm (z_getf (idx := 229) awX1 rfl (by decide) wd_1_138 rfl (by decide +kernel)) (
  fm (z_bipush (n := 12) (by decide +kernel) (by decide)) (
  fm (z_min (idx := 244) (by decide +kernel) wd_3_194 wd_2_40 wd_1_8 wd_2_41 ⟨Nat.le_of_ble_eq_true rfl, Nat.le_of_ble_eq_true rfl⟩) (
  fm (z_istore (i := 4) (by decide +kernel) (by decide)) (
  fm (z_iconst (n := 0) (by decide +kernel) (by decide)) (
  fm (z_istore (i := 5) (by decide +kernel) (by decide)) (
  fm (z_iload (i := 5) (by decide +kernel)) (
  fm (z_iload (i := 4) (by decide +kernel)) (
  fm (z_icmp_ge (off := 33) (by decide +kernel) (by decide)) (
  fm (z_aload_n (j := 0) (by decide +kernel) rfl) (
  fm (z_getf (idx := 41) awX4 rfl (by decide) wd_1_152 rfl (by decide +kernel)) (
  fm (z_iload_n (j := 1) (by decide +kernel) rfl) (
  fm (z_aald (by decide +kernel)) (
  fm (z_getf (idx := 241) awX1 rfl (by decide) wd_1_134 rfl (by decide +kernel)) (
  fm (z_iload (i := 5) (by decide +kernel)) (
  fm (z_iald (by decide +kernel)) (
  fm (z_aload_n (j := 0) (by decide +kernel) rfl) (
  fm (z_getf (idx := 16) awX4 rfl (by decide) wd_1_147 rfl (by decide +kernel)) (
  fm (z_iload (i := 5) (by decide +kernel)) (
  fm (z_inv (idx := 74) rfl (by decide +kernel) wd_1_204 wd_1_205 wd_1_206 wd_1_2 wd_1_207 (by decide +kernel) ⟨Nat.le_of_ble_eq_true rfl, Nat.le_of_ble_eq_true rfl⟩) (
  fm (z_icmp_ne (off := 9) (by decide +kernel) (by decide)) (
  fm (z_iinc (n := 1) (by decide +kernel) (by decide) (by decide)) (
  fm (z_goto (off := (-34)) (by decide +kernel) (by decide)) (
  fm (z_iload (i := 5) (by decide +kernel)) (
  fm (z_bipush (n := 12) (by decide +kernel) (by decide)) (
  fm (z_icmp_ne (off := 21) (by decide +kernel) (by decide)) (
  fm (z_aload_n (j := 0) (by decide +kernel) rfl) (
  fm (z_getf (idx := 41) awX4 rfl (by decide) wd_1_152 rfl (by decide +kernel)) (
  fm (z_iload_n (j := 1) (by decide +kernel) rfl) (
  fm (z_aald (by decide +kernel)) (
  fm (z_getf (idx := 229) awX1 rfl (by decide) wd_1_138 rfl (by decide +kernel)) (
  fm (z_bipush (n := 12) (by decide +kernel) (by decide)) (
  fm (z_icmp_ne (off := 7) (by decide +kernel) (by decide)) (
  fm (z_iconst (n := 0) (by decide +kernel) (by decide)) (
  fm (z_goto (off := 7) (by decide +kernel) (by decide)) (
  fm (z_iconst (n := 1) (by decide +kernel) (by decide)) (
  fm (z_iload (i := 5) (by decide +kernel)) (
  fm (z_iadd (by decide +kernel)) (
  fm (z_iret rfl (by decide +kernel)) (fn))))))))))))))))))))))))))))))))))))))))))))))))))))))))))))))))))))))
def kX4_lastWordHour : Cd := [(0, s_pushi 0 1), (1, s_istore 2 2), (2, s_pushi 0 3), (3, s_istore 3 4), (4, s_iload 3 5), (5, s_pushi 3 6), (6, s_bin (fun x y => x + y) 7), (7, s_aload 1 8), (8, s_getf 1 2 11), (11, s_icmp (fun x y => y < x) 78 14), (14, s_aload 1 15), (15, s_getf 1 0 18), (18, s_iload 3 19), (19, s_pushi 2 20), (20, s_bin (fun x y => x + y) 21), (21, s_iald 22), (22, s_istore 4 24), (24, s_aload 0 25), (25, s_aload 1 26), (26, s_getf 1 0 29), (29, s_iload 3 30), (30, s_iald 31), (31, s_inv mX4_isStall 4 1 34), (34, s_if (fun x => x = 0) 63 37), (37, s_aload 1 38), (38, s_getf 1 0 41), (41, s_iload 3 42), (42, s_pushi 1 43), (43, s_bin (fun x y => x + y) 44), (44, s_iald 45), (45, s_invS mX4_isPlace 1 48), (48, s_if (fun x => x = 0) 63 51), (51, s_iload 4 53), (53, s_if (fun x => x < 0) 63 56), (56, s_iload 4 58), (58, s_pushi 24 60), (60, s_icmp (fun x y => x ≤ y) 65 63), (63, s_pushi (-1) 64), (64, s_iret), (65, s_iload 2 66), (66, s_iload 4 68), (68, s_max 71), (71, s_istore 2 72), (72, s_iinc 3 3 75), (75, s_goto 4), (78, s_iload 2 79), (79, s_iret)]
set_option maxRecDepth 20000 in
theorem zX4_lastWordHour : ∀ q ∈ kX4_lastWordHour, Snd RX4 cX4_lastWordHour 5 (some .int) (rmM mX4_lastWordHour) q.1 q.2 :=
  fm (z_iconst (n := 0) (by decide +kernel) (by decide)) (
  fm (z_istore_n (j := 2) (by decide +kernel) rfl (by decide)) (
  fm (z_iconst (n := 0) (by decide +kernel) (by decide)) (
  fm (z_istore_n (j := 3) (by decide +kernel) rfl (by decide)) (
  fm (z_iload_n (j := 3) (by decide +kernel) rfl) (
  fm (z_iconst (n := 3) (by decide +kernel) (by decide)) (
  fm (z_iadd (by decide +kernel)) (
  fm (z_aload_n (j := 1) (by decide +kernel) rfl) (
  fm (z_getf (idx := 229) awX1 rfl (by decide) wd_1_138 rfl (by decide +kernel)) (
  fm (z_icmp_gt (off := 67) (by decide +kernel) (by decide)) (
  fm (z_aload_n (j := 1) (by decide +kernel) rfl) (
  fm (z_getf (idx := 241) awX1 rfl (by decide) wd_1_134 rfl (by decide +kernel)) (
  fm (z_iload_n (j := 3) (by decide +kernel) rfl) (
  fm (z_iconst (n := 2) (by decide +kernel) (by decide)) (
  fm (z_iadd (by decide +kernel)) (
  fm (z_iald (by decide +kernel)) (
  fm (z_istore (i := 4) (by decide +kernel) (by decide)) (
  fm (z_aload_n (j := 0) (by decide +kernel) rfl) (
  fm (z_aload_n (j := 1) (by decide +kernel) rfl) (
  fm (z_getf (idx := 241) awX1 rfl (by decide) wd_1_134 rfl (by decide +kernel)) (
  fm (z_iload_n (j := 3) (by decide +kernel) rfl) (
  fm (z_iald (by decide +kernel)) (
  fm (z_inv (idx := 84) rfl (by decide +kernel) wd_1_216 wd_1_218 ws_1 wd_1_1 wd_1_219 (by decide +kernel) ⟨Nat.le_of_ble_eq_true rfl, Nat.le_of_ble_eq_true rfl⟩) (
  fm (z_if_eq (off := 29) (by decide +kernel) (by decide)) (
  fm (z_aload_n (j := 1) (by decide +kernel) rfl) (
  fm (z_getf (idx := 241) awX1 rfl (by decide) wd_1_134 rfl (by decide +kernel)) (
  fm (z_iload_n (j := 3) (by decide +kernel) rfl) (
  fm (z_iconst (n := 1) (by decide +kernel) (by decide)) (
  fm (z_iadd (by decide +kernel)) (
  fm (z_iald (by decide +kernel)) (
  fm (z_invS (idx := 53) (by decide +kernel) wd_1_181 wd_1_182 wd_1_1 wd_1_183 (by decide +kernel) ⟨Nat.le_of_ble_eq_true rfl, Nat.le_of_ble_eq_true rfl⟩) (
  fm (z_if_eq (off := 15) (by decide +kernel) (by decide)) (
  fm (z_iload (i := 4) (by decide +kernel)) (
  fm (z_if_lt (off := 10) (by decide +kernel) (by decide)) (
  fm (z_iload (i := 4) (by decide +kernel)) (
  fm (z_bipush (n := 24) (by decide +kernel) (by decide)) (
  fm (z_icmp_le (off := 5) (by decide +kernel) (by decide)) (
  fm (z_iconst (n := (-1)) (by decide +kernel) (by decide)) (
  fm (z_iret rfl (by decide +kernel)) (
  fm (z_iload_n (j := 2) (by decide +kernel) rfl) (
  fm (z_iload (i := 4) (by decide +kernel)) (
  fm (z_max (idx := 283) (by decide +kernel) wd_3_203 wd_3_204 wd_1_8 wd_3_205 ⟨Nat.le_of_ble_eq_true rfl, Nat.le_of_ble_eq_true rfl⟩) (
  fm (z_istore_n (j := 2) (by decide +kernel) rfl (by decide)) (
  fm (z_iinc (n := 3) (by decide +kernel) (by decide) (by decide)) (
  fm (z_goto (off := (-71)) (by decide +kernel) (by decide)) (
  fm (z_iload_n (j := 2) (by decide +kernel) rfl) (
  fm (z_iret rfl (by decide +kernel)) (fn)))))))))))))))))))))))))))))))))))))))))))))))
def kX4_load : Cd := [(0, s_aload 0 1), (1, s_iload 1 2), (2, s_inv mX4_sheetFinding 4 1 5), (5, s_istore 2 6), (6, s_iload 2 7), (7, s_if (fun x => x = 0) 12 10), (10, s_iload 2 11), (11, s_iret), (12, s_aload 0 13), (13, s_getf 4 6 16), (16, s_iload 1 17), (17, s_aald 18), (18, s_getf 1 2 21), (21, s_pushi 12 23), (23, s_min 26), (26, s_istore 3 27), (27, s_pushi 0 28), (28, s_istore 4 30), (30, s_iload 4 32), (32, s_iload 3 33), (33, s_icmp (fun x y => y ≤ x) 96 36), (36, s_aload 0 37), (37, s_getf 4 6 40), (40, s_iload 1 41), (41, s_aald 42), (42, s_getf 1 0 45), (45, s_iload 4 47), (47, s_iald 48), (48, s_if (fun x => x < 0) 96 51), (51, s_aload 0 52), (52, s_getf 4 6 55), (55, s_iload 1 56), (56, s_aald 57), (57, s_getf 1 0 60), (60, s_iload 4 62), (62, s_iald 63), (63, s_pushi 20 65), (65, s_icmp (fun x y => y < x) 96 68), (68, s_aload 0 69), (69, s_getf 4 0 72), (72, s_getf 2 0 75), (75, s_iload 4 77), (77, s_aload 0 78), (78, s_getf 4 6 81), (81, s_iload 1 82), (82, s_aald 83), (83, s_getf 1 0 86), (86, s_iload 4 88), (88, s_iald 89), (89, s_iast 90), (90, s_iinc 4 1 93), (93, s_goto 30), (96, s_iload 4 98), (98, s_iret)]
set_option maxRecDepth 20000 in
theorem zX4_load : ∀ q ∈ kX4_load, Snd RX4 cX4_load 5 (some .int) (rmM mX4_load) q.1 q.2 :=
  fm (z_aload_n (j := 0) (by decide +kernel) rfl) (
  fm (z_iload_n (j := 1) (by decide +kernel) rfl) (
  fm (z_inv (idx := 230) rfl (by decide +kernel) wd_3_174 wd_3_176 ws_25 wd_1_1 wd_3_177 (by decide +kernel) ⟨Nat.le_of_ble_eq_true rfl, Nat.le_of_ble_eq_true rfl⟩) (
  fm (z_istore_n (j := 2) (by decide +kernel) rfl (by decide)) (
  fm (z_iload_n (j := 2) (by decide +kernel) rfl) (
  fm (z_if_eq (off := 5) (by decide +kernel) (by decide)) (
  fm (z_iload_n (j := 2) (by decide +kernel) rfl) (
  fm (z_iret rfl (by decide +kernel)) (
  fm (z_aload_n (j := 0) (by decide +kernel) rfl) (
  fm (z_getf (idx := 41) awX4 rfl (by decide) wd_1_152 rfl (by decide +kernel)) (
  fm (z_iload_n (j := 1) (by decide +kernel) rfl) (
  fm (z_aald (by decide +kernel)) (
  fm (z_getf (idx := 229) awX1 rfl (by decide) wd_1_138 rfl (by decide +kernel)) (
  fm (z_bipush (n := 12) (by decide +kernel) (by decide)) (
  fm (z_min (idx := 244) (by decide +kernel) wd_3_194 wd_2_40 wd_1_8 wd_2_41 ⟨Nat.le_of_ble_eq_true rfl, Nat.le_of_ble_eq_true rfl⟩) (
  fm (z_istore_n (j := 3) (by decide +kernel) rfl (by decide)) (
  fm (z_iconst (n := 0) (by decide +kernel) (by decide)) (
  fm (z_istore (i := 4) (by decide +kernel) (by decide)) (
  fm (z_iload (i := 4) (by decide +kernel)) (
  fm (z_iload_n (j := 3) (by decide +kernel) rfl) (
  fm (z_icmp_ge (off := 63) (by decide +kernel) (by decide)) (
  fm (z_aload_n (j := 0) (by decide +kernel) rfl) (
  fm (z_getf (idx := 41) awX4 rfl (by decide) wd_1_152 rfl (by decide +kernel)) (
  fm (z_iload_n (j := 1) (by decide +kernel) rfl) (
  fm (z_aald (by decide +kernel)) (
  fm (z_getf (idx := 241) awX1 rfl (by decide) wd_1_134 rfl (by decide +kernel)) (
  fm (z_iload (i := 4) (by decide +kernel)) (
  fm (z_iald (by decide +kernel)) (
  fm (z_if_lt (off := 48) (by decide +kernel) (by decide)) (
  fm (z_aload_n (j := 0) (by decide +kernel) rfl) (
  fm (z_getf (idx := 41) awX4 rfl (by decide) wd_1_152 rfl (by decide +kernel)) (
  fm (z_iload_n (j := 1) (by decide +kernel) rfl) (
  fm (z_aald (by decide +kernel)) (
  fm (z_getf (idx := 241) awX1 rfl (by decide) wd_1_134 rfl (by decide +kernel)) (
  fm (z_iload (i := 4) (by decide +kernel)) (
  fm (z_iald (by decide +kernel)) (
  fm (z_bipush (n := 20) (by decide +kernel) (by decide)) (
  fm (z_icmp_gt (off := 31) (by decide +kernel) (by decide)) (
  fm (z_aload_n (j := 0) (by decide +kernel) rfl) (
  fm (z_getf (idx := 10) awX4 rfl (by decide) wd_1_146 rfl (by decide +kernel)) (
  fm (z_getf (idx := 61) awX2 rfl (by decide) wd_1_32 rfl (by decide +kernel)) (
  fm (z_iload (i := 4) (by decide +kernel)) (
  fm (z_aload_n (j := 0) (by decide +kernel) rfl) (
  fm (z_getf (idx := 41) awX4 rfl (by decide) wd_1_152 rfl (by decide +kernel)) (
  fm (z_iload_n (j := 1) (by decide +kernel) rfl) (
  fm (z_aald (by decide +kernel)) (
  fm (z_getf (idx := 241) awX1 rfl (by decide) wd_1_134 rfl (by decide +kernel)) (
  fm (z_iload (i := 4) (by decide +kernel)) (
  fm (z_iald (by decide +kernel)) (
  fm (z_iast (by decide +kernel)) (
  fm (z_iinc (n := 1) (by decide +kernel) (by decide) (by decide)) (
  fm (z_goto (off := (-63)) (by decide +kernel) (by decide)) (
  fm (z_iload (i := 4) (by decide +kernel)) (
  fm (z_iret rfl (by decide +kernel)) (fn))))))))))))))))))))))))))))))))))))))))))))))))))))))
def kX4_lots : Cd := [(0, s_iload 1 1), (1, s_pushi 1 2), (2, s_icmp (fun x y => x < y) 11 5), (5, s_iload 1 6), (6, s_pushi 12 8), (8, s_icmp (fun x y => x ≤ y) 17 11), (11, s_aload 0 12), (12, s_pushi 0 13), (13, s_inv mX4_finding 4 1 16), (16, s_iret), (17, s_aload 0 18), (18, s_getf 4 0 21), (21, s_getf 2 9 24), (24, s_if (fun x => 0 < x) 33 27), (27, s_aload 0 28), (28, s_pushi 4 29), (29, s_inv mX4_finding 4 1 32), (32, s_iret), (33, s_pushi 0 34), (34, s_istore 2 35), (35, s_iload 2 36), (36, s_iload 1 37), (37, s_icmp (fun x y => y ≤ x) 89 40), (40, s_aload 0 41), (41, s_getf 4 0 44), (44, s_inv mX2_draw 2 0 47), (47, s_aload 0 48), (48, s_getf 4 0 51), (51, s_getf 2 9 54), (54, s_rem 55), (55, s_istore 3 56), (56, s_aload 0 57), (57, s_getf 4 0 60), (60, s_inv mX2_draw 2 0 63), (63, s_aload 0 64), (64, s_getf 4 0 67), (67, s_getf 2 9 70), (70, s_rem 71), (71, s_istore 4 73), (73, s_aload 0 74), (74, s_getf 4 0 77), (77, s_iload 3 78), (78, s_iload 4 80), (80, s_inv mX2_exchange 2 2 83), (83, s_iinc 2 1 86), (86, s_goto 35), (89, s_pushi 100 91), (91, s_aload 0 92), (92, s_getf 4 0 95), (95, s_getf 2 3 98), (98, s_pushi 0 99), (99, s_iald 100), (100, s_bin (fun x y => x * y) 101), (101, s_aload 0 102), (102, s_getf 4 0 105), (105, s_getf 2 3 108), (108, s_aload 0 109), (109, s_getf 4 0 112), (112, s_getf 2 9 115), (115, s_pushi 1 116), (116, s_bin (fun x y => x - y) 117), (117, s_iald 118), (118, s_bin (fun x y => x + y) 119), (119, s_iret)]
set_option maxRecDepth 20000 in
theorem zX4_lots : ∀ q ∈ kX4_lots, Snd RX4 cX4_lots 5 (some .int) (rmM mX4_lots) q.1 q.2 :=
  fm (z_iload_n (j := 1) (by decide +kernel) rfl) (
  fm (z_iconst (n := 1) (by decide +kernel) (by decide)) (
  fm (z_icmp_lt (off := 9) (by decide +kernel) (by decide)) (
  fm (z_iload_n (j := 1) (by decide +kernel) rfl) (
  fm (z_bipush (n := 12) (by decide +kernel) (by decide)) (
  fm (z_icmp_le (off := 9) (by decide +kernel) (by decide)) (
  fm (z_aload_n (j := 0) (by decide +kernel) rfl) (
  fm (z_iconst (n := 0) (by decide +kernel) (by decide)) (
  fm (z_inv (idx := 57) rfl (by decide +kernel) wd_1_184 wd_1_186 ws_0 wd_1_1 wd_1_187 (by decide +kernel) ⟨Nat.le_of_ble_eq_true rfl, Nat.le_of_ble_eq_true rfl⟩) (
  fm (z_iret rfl (by decide +kernel)) (
  fm (z_aload_n (j := 0) (by decide +kernel) rfl) (
  fm (z_getf (idx := 10) awX4 rfl (by decide) wd_1_146 rfl (by decide +kernel)) (
  fm (z_getf (idx := 77) awX2 rfl (by decide) wd_1_54 rfl (by decide +kernel)) (
  fm (z_if_gt (off := 9) (by decide +kernel) (by decide)) (
  fm (z_aload_n (j := 0) (by decide +kernel) rfl) (
  fm (z_iconst (n := 4) (by decide +kernel) (by decide)) (
  fm (z_inv (idx := 57) rfl (by decide +kernel) wd_1_184 wd_1_186 ws_0 wd_1_1 wd_1_187 (by decide +kernel) ⟨Nat.le_of_ble_eq_true rfl, Nat.le_of_ble_eq_true rfl⟩) (
  fm (z_iret rfl (by decide +kernel)) (
  fm (z_iconst (n := 0) (by decide +kernel) (by decide)) (
  fm (z_istore_n (j := 2) (by decide +kernel) rfl (by decide)) (
  fm (z_iload_n (j := 2) (by decide +kernel) rfl) (
  fm (z_iload_n (j := 1) (by decide +kernel) rfl) (
  fm (z_icmp_ge (off := 52) (by decide +kernel) (by decide)) (
  fm (z_aload_n (j := 0) (by decide +kernel) rfl) (
  fm (z_getf (idx := 10) awX4 rfl (by decide) wd_1_146 rfl (by decide +kernel)) (
  fm (z_inv (idx := 198) rfl (by decide +kernel) wd_2_235 wd_2_236 wd_2_237 wd_1_2 wd_2_238 (by decide +kernel) ⟨Nat.le_of_ble_eq_true rfl, Nat.le_of_ble_eq_true rfl⟩) (
  fm (z_aload_n (j := 0) (by decide +kernel) rfl) (
  fm (z_getf (idx := 10) awX4 rfl (by decide) wd_1_146 rfl (by decide +kernel)) (
  fm (z_getf (idx := 77) awX2 rfl (by decide) wd_1_54 rfl (by decide +kernel)) (
  fm (z_irem (by decide +kernel)) (
  fm (z_istore_n (j := 3) (by decide +kernel) rfl (by decide)) (
  fm (z_aload_n (j := 0) (by decide +kernel) rfl) (
  fm (z_getf (idx := 10) awX4 rfl (by decide) wd_1_146 rfl (by decide +kernel)) (
  fm (z_inv (idx := 198) rfl (by decide +kernel) wd_2_235 wd_2_236 wd_2_237 wd_1_2 wd_2_238 (by decide +kernel) ⟨Nat.le_of_ble_eq_true rfl, Nat.le_of_ble_eq_true rfl⟩) (
  fm (z_aload_n (j := 0) (by decide +kernel) rfl) (
  fm (z_getf (idx := 10) awX4 rfl (by decide) wd_1_146 rfl (by decide +kernel)) (
  fm (z_getf (idx := 77) awX2 rfl (by decide) wd_1_54 rfl (by decide +kernel)) (
  fm (z_irem (by decide +kernel)) (
  fm (z_istore (i := 4) (by decide +kernel) (by decide)) (
  fm (z_aload_n (j := 0) (by decide +kernel) rfl) (
  fm (z_getf (idx := 10) awX4 rfl (by decide) wd_1_146 rfl (by decide +kernel)) (
  fm (z_iload_n (j := 3) (by decide +kernel) rfl) (
  fm (z_iload (i := 4) (by decide +kernel)) (
  fm (z_inv (idx := 108) rfl (by decide +kernel) wd_1_238 wd_1_239 wd_2_0 wd_1_2 wd_2_1 (by decide +kernel) ⟨Nat.le_of_ble_eq_true rfl, Nat.le_of_ble_eq_true rfl⟩) (
  fm (z_iinc (n := 1) (by decide +kernel) (by decide) (by decide)) (
  fm (z_goto (off := (-51)) (by decide +kernel) (by decide)) (
  fm (z_bipush (n := 100) (by decide +kernel) (by decide)) (
  fm (z_aload_n (j := 0) (by decide +kernel) rfl) (
  fm (z_getf (idx := 10) awX4 rfl (by decide) wd_1_146 rfl (by decide +kernel)) (
  fm (z_getf (idx := 90) awX2 rfl (by decide) wd_1_40 rfl (by decide +kernel)) (
  fm (z_iconst (n := 0) (by decide +kernel) (by decide)) (
  fm (z_iald (by decide +kernel)) (
  fm (z_imul (by decide +kernel)) (
  fm (z_aload_n (j := 0) (by decide +kernel) rfl) (
  fm (z_getf (idx := 10) awX4 rfl (by decide) wd_1_146 rfl (by decide +kernel)) (
  fm (z_getf (idx := 90) awX2 rfl (by decide) wd_1_40 rfl (by decide +kernel)) (
  fm (z_aload_n (j := 0) (by decide +kernel) rfl) (
  fm (z_getf (idx := 10) awX4 rfl (by decide) wd_1_146 rfl (by decide +kernel)) (
  fm (z_getf (idx := 77) awX2 rfl (by decide) wd_1_54 rfl (by decide +kernel)) (
  fm (z_iconst (n := 1) (by decide +kernel) (by decide)) (
  fm (z_isub (by decide +kernel)) (
  fm (z_iald (by decide +kernel)) (
  fm (z_iadd (by decide +kernel)) (
  fm (z_iret rfl (by decide +kernel)) (fn))))))))))))))))))))))))))))))))))))))))))))))))))))))))))))))))
def kX4_meet : Cd := [(0, s_aload 0 1), (1, s_aload 0 2), (2, s_iload 1 3), (3, s_iload 2 4), (4, s_inv mX4_isPair 4 2 7), (7, s_pushi 96 9), (9, s_pushi 0 10), (10, s_pushi 96 12), (12, s_inv mX4_aheadFinding 4 4 15), (15, s_istore 3 16), (16, s_iload 3 17), (17, s_if (fun x => x = 0) 22 20), (20, s_iload 3 21), (21, s_iret), (22, s_aload 0 23), (23, s_getf 4 1 26), (26, s_aload 0 27), (27, s_getf 4 0 30), (30, s_inv mX2_become 2 1 33), (33, s_aload 0 34), (34, s_iload 1 35), (35, s_iload 2 36), (36, s_pushi 96 38), (38, s_inv mX4_firstBeside 4 3 41), (41, s_istore 4 43), (43, s_iload 4 45), (45, s_if (fun x => x < 0) 53 48), (48, s_iload 4 50), (50, s_goto 58), (53, s_aload 0 54), (54, s_pushi 3 55), (55, s_inv mX4_finding 4 1 58), (58, s_iret)]
set_option maxRecDepth 20000 in
theorem zX4_meet : ∀ q ∈ kX4_meet, Snd RX4 cX4_meet 5 (some .int) (rmM mX4_meet) q.1 q.2 :=
  fm (z_aload_n (j := 0) (by decide +kernel) rfl) (
  fm (z_aload_n (j := 0) (by decide +kernel) rfl) (
  fm (z_iload_n (j := 1) (by decide +kernel) rfl) (
  fm (z_iload_n (j := 2) (by decide +kernel) rfl) (
  fm (z_inv (idx := 187) rfl (by decide +kernel) wd_2_197 wd_2_199 ws_10 wd_1_1 wd_2_200 (by decide +kernel) ⟨Nat.le_of_ble_eq_true rfl, Nat.le_of_ble_eq_true rfl⟩) (
  fm (z_bipush (n := 96) (by decide +kernel) (by decide)) (
  fm (z_iconst (n := 0) (by decide +kernel) (by decide)) (
  fm (z_bipush (n := 96) (by decide +kernel) (by decide)) (
  fm (z_inv (idx := 115) rfl (by decide +kernel) wd_2_22 wd_2_24 ws_3 wd_1_1 wd_2_25 (by decide +kernel) ⟨Nat.le_of_ble_eq_true rfl, Nat.le_of_ble_eq_true rfl⟩) (
  fm (z_istore_n (j := 3) (by decide +kernel) rfl (by decide)) (
  fm (z_iload_n (j := 3) (by decide +kernel) rfl) (
  fm (z_if_eq (off := 5) (by decide +kernel) (by decide)) (
  fm (z_iload_n (j := 3) (by decide +kernel) rfl) (
  fm (z_iret rfl (by decide +kernel)) (
  fm (z_aload_n (j := 0) (by decide +kernel) rfl) (
  fm (z_getf (idx := 16) awX4 rfl (by decide) wd_1_147 rfl (by decide +kernel)) (
  fm (z_aload_n (j := 0) (by decide +kernel) rfl) (
  fm (z_getf (idx := 10) awX4 rfl (by decide) wd_1_146 rfl (by decide +kernel)) (
  fm (z_inv (idx := 122) rfl (by decide +kernel) wd_2_64 wd_2_65 wd_2_66 wd_1_2 wd_2_67 (by decide +kernel) ⟨Nat.le_of_ble_eq_true rfl, Nat.le_of_ble_eq_true rfl⟩) (
  fm (z_aload_n (j := 0) (by decide +kernel) rfl) (
  fm (z_iload_n (j := 1) (by decide +kernel) rfl) (
  fm (z_iload_n (j := 2) (by decide +kernel) rfl) (
  fm (z_bipush (n := 96) (by decide +kernel) (by decide)) (
  fm (z_inv (idx := 191) rfl (by decide +kernel) wd_2_201 wd_2_203 ws_11 wd_1_1 wd_2_204 (by decide +kernel) ⟨Nat.le_of_ble_eq_true rfl, Nat.le_of_ble_eq_true rfl⟩) (
  fm (z_istore (i := 4) (by decide +kernel) (by decide)) (
  fm (z_iload (i := 4) (by decide +kernel)) (
  fm (z_if_lt (off := 8) (by decide +kernel) (by decide)) (
  fm (z_iload (i := 4) (by decide +kernel)) (
  fm (z_goto (off := 8) (by decide +kernel) (by decide)) (
  fm (z_aload_n (j := 0) (by decide +kernel) rfl) (
  fm (z_iconst (n := 3) (by decide +kernel) (by decide)) (
  fm (z_inv (idx := 57) rfl (by decide +kernel) wd_1_184 wd_1_186 ws_0 wd_1_1 wd_1_187 (by decide +kernel) ⟨Nat.le_of_ble_eq_true rfl, Nat.le_of_ble_eq_true rfl⟩) (
  fm (z_iret rfl (by decide +kernel)) (fn)))))))))))))))))))))))))))))))))
def kX4_most : Cd := [(0, s_aload 0 1), (1, s_pushi 1 2), (2, s_iload 1 3), (3, s_pushi 1 4), (4, s_inv mX4_orderFinding 4 3 7), (7, s_istore 2 8), (8, s_iload 2 9), (9, s_if (fun x => x = 0) 16 12), (12, s_iload 2 13), (13, s_goto 21), (16, s_aload 0 17), (17, s_iload 1 18), (18, s_inv mX4_searchMost 4 1 21), (21, s_iret)]
set_option maxRecDepth 20000 in
theorem zX4_most : ∀ q ∈ kX4_most, Snd RX4 cX4_most 3 (some .int) (rmM mX4_most) q.1 q.2 :=
  fm (z_aload_n (j := 0) (by decide +kernel) rfl) (
  fm (z_iconst (n := 1) (by decide +kernel) (by decide)) (
  fm (z_iload_n (j := 1) (by decide +kernel) rfl) (
  fm (z_iconst (n := 1) (by decide +kernel) (by decide)) (
  fm (z_inv (idx := 155) rfl (by decide +kernel) wd_2_120 wd_2_122 ws_5 wd_1_1 wd_2_123 (by decide +kernel) ⟨Nat.le_of_ble_eq_true rfl, Nat.le_of_ble_eq_true rfl⟩) (
  fm (z_istore_n (j := 2) (by decide +kernel) rfl (by decide)) (
  fm (z_iload_n (j := 2) (by decide +kernel) rfl) (
  fm (z_if_eq (off := 7) (by decide +kernel) (by decide)) (
  fm (z_iload_n (j := 2) (by decide +kernel) rfl) (
  fm (z_goto (off := 8) (by decide +kernel) (by decide)) (
  fm (z_aload_n (j := 0) (by decide +kernel) rfl) (
  fm (z_iload_n (j := 1) (by decide +kernel) rfl) (
  fm (z_inv (idx := 159) rfl (by decide +kernel) wd_2_124 wd_2_126 ws_6 wd_1_1 wd_2_127 (by decide +kernel) ⟨Nat.le_of_ble_eq_true rfl, Nat.le_of_ble_eq_true rfl⟩) (
  fm (z_iret rfl (by decide +kernel)) (fn))))))))))))))
def kX4_never : Cd := [(0, s_aload 0 1), (1, s_aload 0 2), (2, s_iload 1 3), (3, s_iload 2 4), (4, s_inv mX4_isPair 4 2 7), (7, s_iload 3 8), (8, s_pushi 0 9), (9, s_inv mX4_orderFinding 4 3 12), (12, s_istore 4 14), (14, s_iload 4 16), (16, s_if (fun x => x = 0) 22 19), (19, s_iload 4 21), (21, s_iret), (22, s_pushi 0 23), (23, s_istore 5 25), (25, s_aload 0 26), (26, s_getf 4 3 29), (29, s_aload 0 30), (30, s_getf 4 0 33), (33, s_getf 2 9 36), (36, s_inv mX0_begin 0 1 39), (39, s_istore 6 41), (41, s_pushi 0 42), (42, s_istore 7 44), (44, s_iload 7 46), (46, s_iload 6 48), (48, s_icmp (fun x y => y ≤ x) 81 51), (51, s_aload 0 52), (52, s_inv mX4_tryOrder 4 0 55), (55, s_aload 0 56), (56, s_iload 1 57), (57, s_iload 2 58), (58, s_iload 3 59), (59, s_inv mX4_firstBeside 4 3 62), (62, s_if (fun x => 0 ≤ x) 68 65), (65, s_iinc 5 1 68), (68, s_aload 0 69), (69, s_getf 4 3 72), (72, s_inv mX0_advance 0 0 75), (75, s_iinc 7 1 78), (78, s_goto 44), (81, s_iload 5 83), (83, s_iret)]
set_option maxRecDepth 20000 in
theorem zX4_never : ∀ q ∈ kX4_never, Snd RX4 cX4_never 8 (some .int) (rmM mX4_never) q.1 q.2 :=
  fm (z_aload_n (j := 0) (by decide +kernel) rfl) (
  fm (z_aload_n (j := 0) (by decide +kernel) rfl) (
  fm (z_iload_n (j := 1) (by decide +kernel) rfl) (
  fm (z_iload_n (j := 2) (by decide +kernel) rfl) (
  fm (z_inv (idx := 187) rfl (by decide +kernel) wd_2_197 wd_2_199 ws_10 wd_1_1 wd_2_200 (by decide +kernel) ⟨Nat.le_of_ble_eq_true rfl, Nat.le_of_ble_eq_true rfl⟩) (
  fm (z_iload_n (j := 3) (by decide +kernel) rfl) (
  fm (z_iconst (n := 0) (by decide +kernel) (by decide)) (
  fm (z_inv (idx := 155) rfl (by decide +kernel) wd_2_120 wd_2_122 ws_5 wd_1_1 wd_2_123 (by decide +kernel) ⟨Nat.le_of_ble_eq_true rfl, Nat.le_of_ble_eq_true rfl⟩) (
  fm (z_istore (i := 4) (by decide +kernel) (by decide)) (
  fm (z_iload (i := 4) (by decide +kernel)) (
  fm (z_if_eq (off := 6) (by decide +kernel) (by decide)) (
  fm (z_iload (i := 4) (by decide +kernel)) (
  fm (z_iret rfl (by decide +kernel)) (
  fm (z_iconst (n := 0) (by decide +kernel) (by decide)) (
  fm (z_istore (i := 5) (by decide +kernel) (by decide)) (
  fm (z_aload_n (j := 0) (by decide +kernel) rfl) (
  fm (z_getf (idx := 25) awX4 rfl (by decide) wd_1_149 rfl (by decide +kernel)) (
  fm (z_aload_n (j := 0) (by decide +kernel) rfl) (
  fm (z_getf (idx := 10) awX4 rfl (by decide) wd_1_146 rfl (by decide +kernel)) (
  fm (z_getf (idx := 77) awX2 rfl (by decide) wd_1_54 rfl (by decide +kernel)) (
  fm (z_inv (idx := 165) rfl (by decide +kernel) wd_2_128 wd_2_129 wd_2_130 wd_1_4 wd_2_131 (by decide +kernel) ⟨Nat.le_of_ble_eq_true rfl, Nat.le_of_ble_eq_true rfl⟩) (
  fm (z_istore (i := 6) (by decide +kernel) (by decide)) (
  fm (z_iconst (n := 0) (by decide +kernel) (by decide)) (
  fm (z_istore (i := 7) (by decide +kernel) (by decide)) (
  fm (z_iload (i := 7) (by decide +kernel)) (
  fm (z_iload (i := 6) (by decide +kernel)) (
  fm (z_icmp_ge (off := 33) (by decide +kernel) (by decide)) (
  fm (z_aload_n (j := 0) (by decide +kernel) rfl) (
  fm (z_inv (idx := 168) rfl (by decide +kernel) wd_2_132 wd_2_134 ws_7 wd_1_1 wd_2_135 (by decide +kernel) ⟨Nat.le_of_ble_eq_true rfl, Nat.le_of_ble_eq_true rfl⟩) (
  fm (z_aload_n (j := 0) (by decide +kernel) rfl) (
  fm (z_iload_n (j := 1) (by decide +kernel) rfl) (
  fm (z_iload_n (j := 2) (by decide +kernel) rfl) (
  fm (z_iload_n (j := 3) (by decide +kernel) rfl) (
  fm (z_inv (idx := 191) rfl (by decide +kernel) wd_2_201 wd_2_203 ws_11 wd_1_1 wd_2_204 (by decide +kernel) ⟨Nat.le_of_ble_eq_true rfl, Nat.le_of_ble_eq_true rfl⟩) (
  fm (z_if_ge (off := 6) (by decide +kernel) (by decide)) (
  fm (z_iinc (n := 1) (by decide +kernel) (by decide) (by decide)) (
  fm (z_aload_n (j := 0) (by decide +kernel) rfl) (
  fm (z_getf (idx := 25) awX4 rfl (by decide) wd_1_149 rfl (by decide +kernel)) (
  fm (z_inv (idx := 171) rfl (by decide +kernel) wd_2_141 wd_2_142 wd_2_143 wd_1_4 wd_2_144 (by decide +kernel) ⟨Nat.le_of_ble_eq_true rfl, Nat.le_of_ble_eq_true rfl⟩) (
  fm (z_iinc (n := 1) (by decide +kernel) (by decide) (by decide)) (
  fm (z_goto (off := (-34)) (by decide +kernel) (by decide)) (
  fm (z_iload (i := 5) (by decide +kernel)) (
  fm (z_iret rfl (by decide +kernel)) (fn)))))))))))))))))))))))))))))))))))))))))))
def kX4_of : Cd := [(0, s_aload 0 1), (1, s_iload 1 2), (2, s_inv mX4_isStall 4 1 5), (5, s_if (fun x => x = 0) 8 14), (8, s_aload 0 9), (9, s_pushi 0 10), (10, s_inv mX4_finding 4 1 13), (13, s_iret), (14, s_iload 2 15), (15, s_sw [(0, 56), (1, 66), (2, 76), (3, 86), (4, 96), (5, 106), (6, 115)] 132), (56, s_aload 0 57), (57, s_getf 4 0 60), (60, s_getf 2 2 63), (63, s_iload 1 64), (64, s_iald 65), (65, s_iret), (66, s_aload 0 67), (67, s_getf 4 0 70), (70, s_getf 2 3 73), (73, s_iload 1 74), (74, s_iald 75), (75, s_iret), (76, s_aload 0 77), (77, s_getf 4 0 80), (80, s_getf 2 4 83), (83, s_iload 1 84), (84, s_iald 85), (85, s_iret), (86, s_aload 0 87), (87, s_getf 4 0 90), (90, s_getf 2 5 93), (93, s_iload 1 94), (94, s_iald 95), (95, s_iret), (96, s_aload 0 97), (97, s_getf 4 0 100), (100, s_getf 2 6 103), (103, s_iload 1 104), (104, s_iald 105), (105, s_iret), (106, s_aload 0 107), (107, s_getf 4 0 110), (110, s_iload 1 111), (111, s_inv mX2_priceOf 2 1 114), (114, s_iret), (115, s_aload 0 116), (116, s_getf 4 0 119), (119, s_iload 1 120), (120, s_inv mX2_wouldGo 2 1 123), (123, s_if (fun x => x = 0) 130 126), (126, s_pushi 1 127), (127, s_goto 131), (130, s_pushi 0 131), (131, s_iret), (132, s_aload 0 133), (133, s_pushi 0 134), (134, s_inv mX4_finding 4 1 137), (137, s_iret)]
set_option maxRecDepth 20000 in
theorem zX4_of : ∀ q ∈ kX4_of, Snd RX4 cX4_of 3 (some .int) (rmM mX4_of) q.1 q.2 :=
  fm (z_aload_n (j := 0) (by decide +kernel) rfl) (
  fm (z_iload_n (j := 1) (by decide +kernel) rfl) (
  fm (z_inv (idx := 84) rfl (by decide +kernel) wd_1_216 wd_1_218 ws_1 wd_1_1 wd_1_219 (by decide +kernel) ⟨Nat.le_of_ble_eq_true rfl, Nat.le_of_ble_eq_true rfl⟩) (
  fm (z_if_ne (off := 9) (by decide +kernel) (by decide)) (
  fm (z_aload_n (j := 0) (by decide +kernel) rfl) (
  fm (z_iconst (n := 0) (by decide +kernel) (by decide)) (
  fm (z_inv (idx := 57) rfl (by decide +kernel) wd_1_184 wd_1_186 ws_0 wd_1_1 wd_1_187 (by decide +kernel) ⟨Nat.le_of_ble_eq_true rfl, Nat.le_of_ble_eq_true rfl⟩) (
  fm (z_iret rfl (by decide +kernel)) (
  fm (z_iload_n (j := 2) (by decide +kernel) rfl) (
  fm (z_tsw (dflt := 117) (lo := 0) (hi := 6) (offs := #[41, 51, 61, 71, 81, 91, 100]) (len := 41) (by decide +kernel) (by decide) rfl (by decide) (by decide +kernel)) (
  fm (z_aload_n (j := 0) (by decide +kernel) rfl) (
  fm (z_getf (idx := 10) awX4 rfl (by decide) wd_1_146 rfl (by decide +kernel)) (
  fm (z_getf (idx := 87) awX2 rfl (by decide) wd_1_38 rfl (by decide +kernel)) (
  fm (z_iload_n (j := 1) (by decide +kernel) rfl) (
  fm (z_iald (by decide +kernel)) (
  fm (z_iret rfl (by decide +kernel)) (
  fm (z_aload_n (j := 0) (by decide +kernel) rfl) (
  fm (z_getf (idx := 10) awX4 rfl (by decide) wd_1_146 rfl (by decide +kernel)) (
  fm (z_getf (idx := 90) awX2 rfl (by decide) wd_1_40 rfl (by decide +kernel)) (
  fm (z_iload_n (j := 1) (by decide +kernel) rfl) (
  fm (z_iald (by decide +kernel)) (
  fm (z_iret rfl (by decide +kernel)) (
  fm (z_aload_n (j := 0) (by decide +kernel) rfl) (
  fm (z_getf (idx := 10) awX4 rfl (by decide) wd_1_146 rfl (by decide +kernel)) (
  fm (z_getf (idx := 93) awX2 rfl (by decide) wd_1_42 rfl (by decide +kernel)) (
  fm (z_iload_n (j := 1) (by decide +kernel) rfl) (
  fm (z_iald (by decide +kernel)) (
  fm (z_iret rfl (by decide +kernel)) (
  fm (z_aload_n (j := 0) (by decide +kernel) rfl) (
  fm (z_getf (idx := 10) awX4 rfl (by decide) wd_1_146 rfl (by decide +kernel)) (
  fm (z_getf (idx := 96) awX2 rfl (by decide) wd_1_45 rfl (by decide +kernel)) (
  fm (z_iload_n (j := 1) (by decide +kernel) rfl) (
  fm (z_iald (by decide +kernel)) (
  fm (z_iret rfl (by decide +kernel)) (
  fm (z_aload_n (j := 0) (by decide +kernel) rfl) (
  fm (z_getf (idx := 10) awX4 rfl (by decide) wd_1_146 rfl (by decide +kernel)) (
  fm (z_getf (idx := 99) awX2 rfl (by decide) wd_1_47 rfl (by decide +kernel)) (
  fm (z_iload_n (j := 1) (by decide +kernel) rfl) (
  fm (z_iald (by decide +kernel)) (
  fm (z_iret rfl (by decide +kernel)) (
  fm (z_aload_n (j := 0) (by decide +kernel) rfl) (
  fm (z_getf (idx := 10) awX4 rfl (by decide) wd_1_146 rfl (by decide +kernel)) (
  fm (z_iload_n (j := 1) (by decide +kernel) rfl) (
  fm (z_inv (idx := 102) rfl (by decide +kernel) wd_1_220 wd_1_221 wd_1_222 wd_1_2 wd_1_223 (by decide +kernel) ⟨Nat.le_of_ble_eq_true rfl, Nat.le_of_ble_eq_true rfl⟩) (
  fm (z_iret rfl (by decide +kernel)) (
  fm (z_aload_n (j := 0) (by decide +kernel) rfl) (
  fm (z_getf (idx := 10) awX4 rfl (by decide) wd_1_146 rfl (by decide +kernel)) (
  fm (z_iload_n (j := 1) (by decide +kernel) rfl) (
  fm (z_inv (idx := 105) rfl (by decide +kernel) wd_1_226 wd_1_227 wd_1_228 wd_1_2 wd_1_229 (by decide +kernel) ⟨Nat.le_of_ble_eq_true rfl, Nat.le_of_ble_eq_true rfl⟩) (
  fm (z_if_eq (off := 7) (by decide +kernel) (by decide)) (
  fm (z_iconst (n := 1) (by decide +kernel) (by decide)) (
  fm (z_goto (off := 4) (by decide +kernel) (by decide)) (
  fm (z_iconst (n := 0) (by decide +kernel) (by decide)) (
  fm (z_iret rfl (by decide +kernel)) (
  fm (z_aload_n (j := 0) (by decide +kernel) rfl) (
  fm (z_iconst (n := 0) (by decide +kernel) (by decide)) (
  fm (z_inv (idx := 57) rfl (by decide +kernel) wd_1_184 wd_1_186 ws_0 wd_1_1 wd_1_187 (by decide +kernel) ⟨Nat.le_of_ble_eq_true rfl, Nat.le_of_ble_eq_true rfl⟩) (
  fm (z_iret rfl (by decide +kernel)) (fn))))))))))))))))))))))))))))))))))))))))))))))))))))))))))
def kX4_offers : Cd := [(0, s_aload 0 1), (1, s_iload 1 2), (2, s_inv mX4_isStall 4 1 5), (5, s_if (fun x => x = 0) 15 8), (8, s_iload 2 9), (9, s_invS mX4_isPlace 1 12), (12, s_if (fun x => x = 0) 15 21), (15, s_aload 0 16), (16, s_pushi 0 17), (17, s_inv mX4_finding 4 1 20), (20, s_iret), (21, s_aload 0 22), (22, s_getf 4 0 25), (25, s_aload 0 26), (26, s_getf 4 0 29), (29, s_getf 2 2 32), (32, s_iload 1 33), (33, s_iald 34), (34, s_iload 2 35), (35, s_inv mX2_offerAt 2 2 38), (38, s_iret)]
set_option maxRecDepth 20000 in
theorem zX4_offers : ∀ q ∈ kX4_offers, Snd RX4 cX4_offers 3 (some .int) (rmM mX4_offers) q.1 q.2 :=
  fm (z_aload_n (j := 0) (by decide +kernel) rfl) (
  fm (z_iload_n (j := 1) (by decide +kernel) rfl) (
  fm (z_inv (idx := 84) rfl (by decide +kernel) wd_1_216 wd_1_218 ws_1 wd_1_1 wd_1_219 (by decide +kernel) ⟨Nat.le_of_ble_eq_true rfl, Nat.le_of_ble_eq_true rfl⟩) (
  fm (z_if_eq (off := 10) (by decide +kernel) (by decide)) (
  fm (z_iload_n (j := 2) (by decide +kernel) rfl) (
  fm (z_invS (idx := 53) (by decide +kernel) wd_1_181 wd_1_182 wd_1_1 wd_1_183 (by decide +kernel) ⟨Nat.le_of_ble_eq_true rfl, Nat.le_of_ble_eq_true rfl⟩) (
  fm (z_if_ne (off := 9) (by decide +kernel) (by decide)) (
  fm (z_aload_n (j := 0) (by decide +kernel) rfl) (
  fm (z_iconst (n := 0) (by decide +kernel) (by decide)) (
  fm (z_inv (idx := 57) rfl (by decide +kernel) wd_1_184 wd_1_186 ws_0 wd_1_1 wd_1_187 (by decide +kernel) ⟨Nat.le_of_ble_eq_true rfl, Nat.le_of_ble_eq_true rfl⟩) (
  fm (z_iret rfl (by decide +kernel)) (
  fm (z_aload_n (j := 0) (by decide +kernel) rfl) (
  fm (z_getf (idx := 10) awX4 rfl (by decide) wd_1_146 rfl (by decide +kernel)) (
  fm (z_aload_n (j := 0) (by decide +kernel) rfl) (
  fm (z_getf (idx := 10) awX4 rfl (by decide) wd_1_146 rfl (by decide +kernel)) (
  fm (z_getf (idx := 87) awX2 rfl (by decide) wd_1_38 rfl (by decide +kernel)) (
  fm (z_iload_n (j := 1) (by decide +kernel) rfl) (
  fm (z_iald (by decide +kernel)) (
  fm (z_iload_n (j := 2) (by decide +kernel) rfl) (
  fm (z_inv (idx := 112) rfl (by decide +kernel) wd_2_6 wd_2_7 wd_2_8 wd_1_2 wd_2_9 (by decide +kernel) ⟨Nat.le_of_ble_eq_true rfl, Nat.le_of_ble_eq_true rfl⟩) (
  fm (z_iret rfl (by decide +kernel)) (fn)))))))))))))))))))))
def kX4_order : Cd := [(0, s_aload 0 1), (1, s_aload 0 2), (2, s_iload 1 3), (3, s_inv mX4_isStall 4 1 6), (6, s_iload 2 7), (7, s_pushi 1 8), (8, s_inv mX4_orderFinding 4 3 11), (11, s_istore 3 12), (12, s_iload 3 13), (13, s_if (fun x => x = 0) 18 16), (16, s_iload 3 17), (17, s_iret), (18, s_aload 0 19), (19, s_iload 2 20), (20, s_inv mX4_searchMost 4 1 23), (23, s_pop 24), (24, s_aload 0 25), (25, s_getf 4 4 28), (28, s_getf 0 0 31), (31, s_iload 1 32), (32, s_iald 33), (33, s_iret)]
set_option maxRecDepth 20000 in
theorem zX4_order : ∀ q ∈ kX4_order, Snd RX4 cX4_order 4 (some .int) (rmM mX4_order) q.1 q.2 :=
  fm (z_aload_n (j := 0) (by decide +kernel) rfl) (
  fm (z_aload_n (j := 0) (by decide +kernel) rfl) (
  fm (z_iload_n (j := 1) (by decide +kernel) rfl) (
  fm (z_inv (idx := 84) rfl (by decide +kernel) wd_1_216 wd_1_218 ws_1 wd_1_1 wd_1_219 (by decide +kernel) ⟨Nat.le_of_ble_eq_true rfl, Nat.le_of_ble_eq_true rfl⟩) (
  fm (z_iload_n (j := 2) (by decide +kernel) rfl) (
  fm (z_iconst (n := 1) (by decide +kernel) (by decide)) (
  fm (z_inv (idx := 155) rfl (by decide +kernel) wd_2_120 wd_2_122 ws_5 wd_1_1 wd_2_123 (by decide +kernel) ⟨Nat.le_of_ble_eq_true rfl, Nat.le_of_ble_eq_true rfl⟩) (
  fm (z_istore_n (j := 3) (by decide +kernel) rfl (by decide)) (
  fm (z_iload_n (j := 3) (by decide +kernel) rfl) (
  fm (z_if_eq (off := 5) (by decide +kernel) (by decide)) (
  fm (z_iload_n (j := 3) (by decide +kernel) rfl) (
  fm (z_iret rfl (by decide +kernel)) (
  fm (z_aload_n (j := 0) (by decide +kernel) rfl) (
  fm (z_iload_n (j := 2) (by decide +kernel) rfl) (
  fm (z_inv (idx := 159) rfl (by decide +kernel) wd_2_124 wd_2_126 ws_6 wd_1_1 wd_2_127 (by decide +kernel) ⟨Nat.le_of_ble_eq_true rfl, Nat.le_of_ble_eq_true rfl⟩) (
  fm (z_pop (by decide +kernel)) (
  fm (z_aload_n (j := 0) (by decide +kernel) rfl) (
  fm (z_getf (idx := 29) awX4 rfl (by decide) wd_1_150 rfl (by decide +kernel)) (
  fm (z_getf (idx := 162) awX0 rfl (by decide) wd_1_93 rfl (by decide +kernel)) (
  fm (z_iload_n (j := 1) (by decide +kernel) rfl) (
  fm (z_iald (by decide +kernel)) (
  fm (z_iret rfl (by decide +kernel)) (fn))))))))))))))))))))))
def kX4_orderFinding : Cd := [(0, s_aload 0 1), (1, s_iload 1 2), (2, s_iload 2 3), (3, s_iload 3 4), (4, s_pushi 24 6), (6, s_inv mX4_aheadFinding 4 4 9), (9, s_istore 4 11), (11, s_iload 4 13), (13, s_if (fun x => x = 0) 19 16), (16, s_iload 4 18), (18, s_iret), (19, s_aload 0 20), (20, s_getf 4 0 23), (23, s_getf 2 9 26), (26, s_pushi 6 28), (28, s_icmp (fun x y => x ≤ y) 40 31), (31, s_aload 0 32), (32, s_pushi 6 34), (34, s_inv mX4_finding 4 1 37), (37, s_goto 41), (40, s_pushi 0 41), (41, s_iret)]
set_option maxRecDepth 20000 in
theorem zX4_orderFinding : ∀ q ∈ kX4_orderFinding, Snd RX4 cX4_orderFinding 5 (some .int) (rmM mX4_orderFinding) q.1 q.2 :=
  fm (z_aload_n (j := 0) (by decide +kernel) rfl) (
  fm (z_iload_n (j := 1) (by decide +kernel) rfl) (
  fm (z_iload_n (j := 2) (by decide +kernel) rfl) (
  fm (z_iload_n (j := 3) (by decide +kernel) rfl) (
  fm (z_bipush (n := 24) (by decide +kernel) (by decide)) (
  fm (z_inv (idx := 115) rfl (by decide +kernel) wd_2_22 wd_2_24 ws_3 wd_1_1 wd_2_25 (by decide +kernel) ⟨Nat.le_of_ble_eq_true rfl, Nat.le_of_ble_eq_true rfl⟩) (
  fm (z_istore (i := 4) (by decide +kernel) (by decide)) (
  fm (z_iload (i := 4) (by decide +kernel)) (
  fm (z_if_eq (off := 6) (by decide +kernel) (by decide)) (
  fm (z_iload (i := 4) (by decide +kernel)) (
  fm (z_iret rfl (by decide +kernel)) (
  fm (z_aload_n (j := 0) (by decide +kernel) rfl) (
  fm (z_getf (idx := 10) awX4 rfl (by decide) wd_1_146 rfl (by decide +kernel)) (
  fm (z_getf (idx := 77) awX2 rfl (by decide) wd_1_54 rfl (by decide +kernel)) (
  fm (z_bipush (n := 6) (by decide +kernel) (by decide)) (
  fm (z_icmp_le (off := 12) (by decide +kernel) (by decide)) (
  fm (z_aload_n (j := 0) (by decide +kernel) rfl) (
  fm (z_bipush (n := 6) (by decide +kernel) (by decide)) (
  fm (z_inv (idx := 57) rfl (by decide +kernel) wd_1_184 wd_1_186 ws_0 wd_1_1 wd_1_187 (by decide +kernel) ⟨Nat.le_of_ble_eq_true rfl, Nat.le_of_ble_eq_true rfl⟩) (
  fm (z_goto (off := 4) (by decide +kernel) (by decide)) (
  fm (z_iconst (n := 0) (by decide +kernel) (by decide)) (
  fm (z_iret rfl (by decide +kernel)) (fn))))))))))))))))))))))
def kX4_passes : Cd := [(0, s_aload 0 1), (1, s_iload 1 2), (2, s_inv mX4_isStall 4 1 5), (5, s_if (fun x => x = 0) 8 14), (8, s_aload 0 9), (9, s_pushi 0 10), (10, s_inv mX4_finding 4 1 13), (13, s_iret), (14, s_aload 0 15), (15, s_getf 4 1 18), (18, s_aload 0 19), (19, s_getf 4 0 22), (22, s_inv mX2_become 2 1 25), (25, s_aload 0 26), (26, s_getf 4 1 29), (29, s_inv mX2_sellAll 2 0 32), (32, s_pop 33), (33, s_aload 0 34), (34, s_getf 4 1 37), (37, s_inv mX2_stayers 2 0 40), (40, s_istore 2 41), (41, s_iload 2 42), (42, s_iload 1 43), (43, s_bin (fun x y => x >>> (y &&& 31)) 44), (44, s_pushi 1 45), (45, s_bin (fun x y => x &&& y) 46), (46, s_pushi 1 47), (47, s_icmp (fun x y => x = y) 50 52), (50, s_pushi 0 51), (51, s_iret), (52, s_aload 0 53), (53, s_getf 4 1 56), (56, s_aload 0 57), (57, s_getf 4 1 60), (60, s_getf 2 3 63), (63, s_iload 1 64), (64, s_iald 65), (65, s_aload 0 66), (66, s_getf 4 1 69), (69, s_iload 2 70), (70, s_inv mX2_placesOf 2 1 73), (73, s_inv mX2_stepsFrom 2 2 76), (76, s_istore 3 77), (77, s_iload 3 78), (78, s_pushi 1 79), (79, s_bin (fun x y => x - y) 80), (80, s_iret)]
set_option maxRecDepth 20000 in
theorem zX4_passes : ∀ q ∈ kX4_passes, Snd RX4 cX4_passes 4 (some .int) (rmM mX4_passes) q.1 q.2 :=
  fm (z_aload_n (j := 0) (by decide +kernel) rfl) (
  fm (z_iload_n (j := 1) (by decide +kernel) rfl) (
  fm (z_inv (idx := 84) rfl (by decide +kernel) wd_1_216 wd_1_218 ws_1 wd_1_1 wd_1_219 (by decide +kernel) ⟨Nat.le_of_ble_eq_true rfl, Nat.le_of_ble_eq_true rfl⟩) (
  fm (z_if_ne (off := 9) (by decide +kernel) (by decide)) (
  fm (z_aload_n (j := 0) (by decide +kernel) rfl) (
  fm (z_iconst (n := 0) (by decide +kernel) (by decide)) (
  fm (z_inv (idx := 57) rfl (by decide +kernel) wd_1_184 wd_1_186 ws_0 wd_1_1 wd_1_187 (by decide +kernel) ⟨Nat.le_of_ble_eq_true rfl, Nat.le_of_ble_eq_true rfl⟩) (
  fm (z_iret rfl (by decide +kernel)) (
  fm (z_aload_n (j := 0) (by decide +kernel) rfl) (
  fm (z_getf (idx := 16) awX4 rfl (by decide) wd_1_147 rfl (by decide +kernel)) (
  fm (z_aload_n (j := 0) (by decide +kernel) rfl) (
  fm (z_getf (idx := 10) awX4 rfl (by decide) wd_1_146 rfl (by decide +kernel)) (
  fm (z_inv (idx := 122) rfl (by decide +kernel) wd_2_64 wd_2_65 wd_2_66 wd_1_2 wd_2_67 (by decide +kernel) ⟨Nat.le_of_ble_eq_true rfl, Nat.le_of_ble_eq_true rfl⟩) (
  fm (z_aload_n (j := 0) (by decide +kernel) rfl) (
  fm (z_getf (idx := 16) awX4 rfl (by decide) wd_1_147 rfl (by decide +kernel)) (
  fm (z_inv (idx := 126) rfl (by decide +kernel) wd_2_71 wd_2_35 wd_2_36 wd_1_2 wd_2_37 (by decide +kernel) ⟨Nat.le_of_ble_eq_true rfl, Nat.le_of_ble_eq_true rfl⟩) (
  fm (z_pop (by decide +kernel)) (
  fm (z_aload_n (j := 0) (by decide +kernel) rfl) (
  fm (z_getf (idx := 16) awX4 rfl (by decide) wd_1_147 rfl (by decide +kernel)) (
  fm (z_inv (idx := 130) rfl (by decide +kernel) wd_2_72 wd_2_48 wd_2_49 wd_1_2 wd_2_50 (by decide +kernel) ⟨Nat.le_of_ble_eq_true rfl, Nat.le_of_ble_eq_true rfl⟩) (
  fm (z_istore_n (j := 2) (by decide +kernel) rfl (by decide)) (
  fm (z_iload_n (j := 2) (by decide +kernel) rfl) (
  fm (z_iload_n (j := 1) (by decide +kernel) rfl) (
  fm (z_ishr (by decide +kernel)) (
  fm (z_iconst (n := 1) (by decide +kernel) (by decide)) (
  fm (z_iand (by decide +kernel)) (
  fm (z_iconst (n := 1) (by decide +kernel) (by decide)) (
  fm (z_icmp_ne (off := 5) (by decide +kernel) (by decide)) (
  fm (z_iconst (n := 0) (by decide +kernel) (by decide)) (
  fm (z_iret rfl (by decide +kernel)) (
  fm (z_aload_n (j := 0) (by decide +kernel) rfl) (
  fm (z_getf (idx := 16) awX4 rfl (by decide) wd_1_147 rfl (by decide +kernel)) (
  fm (z_aload_n (j := 0) (by decide +kernel) rfl) (
  fm (z_getf (idx := 16) awX4 rfl (by decide) wd_1_147 rfl (by decide +kernel)) (
  fm (z_getf (idx := 90) awX2 rfl (by decide) wd_1_40 rfl (by decide +kernel)) (
  fm (z_iload_n (j := 1) (by decide +kernel) rfl) (
  fm (z_iald (by decide +kernel)) (
  fm (z_aload_n (j := 0) (by decide +kernel) rfl) (
  fm (z_getf (idx := 16) awX4 rfl (by decide) wd_1_147 rfl (by decide +kernel)) (
  fm (z_iload_n (j := 2) (by decide +kernel) rfl) (
  fm (z_inv (idx := 149) rfl (by decide +kernel) wd_2_114 wd_2_53 wd_2_54 wd_1_2 wd_2_55 (by decide +kernel) ⟨Nat.le_of_ble_eq_true rfl, Nat.le_of_ble_eq_true rfl⟩) (
  fm (z_inv (idx := 152) rfl (by decide +kernel) wd_2_115 wd_2_57 wd_2_58 wd_1_2 wd_2_59 (by decide +kernel) ⟨Nat.le_of_ble_eq_true rfl, Nat.le_of_ble_eq_true rfl⟩) (
  fm (z_istore_n (j := 3) (by decide +kernel) rfl (by decide)) (
  fm (z_iload_n (j := 3) (by decide +kernel) rfl) (
  fm (z_iconst (n := 1) (by decide +kernel) (by decide)) (
  fm (z_isub (by decide +kernel)) (
  fm (z_iret rfl (by decide +kernel)) (fn)))))))))))))))))))))))))))))))))))))))))))))))
def kX4_placeOf : Cd := [(0, s_iload 1 1), (1, s_invS mX4_isPlace 1 4), (4, s_if (fun x => x = 0) 7 13), (7, s_aload 0 8), (8, s_pushi 0 9), (9, s_inv mX4_finding 4 1 12), (12, s_iret), (13, s_iload 2 14), (14, s_sw [(0, 40), (1, 50), (2, 60)] 69), (40, s_aload 0 41), (41, s_getf 4 0 44), (44, s_getf 2 0 47), (47, s_iload 1 48), (48, s_iald 49), (49, s_iret), (50, s_aload 0 51), (51, s_getf 4 0 54), (54, s_getf 2 1 57), (57, s_iload 1 58), (58, s_iald 59), (59, s_iret), (60, s_aload 0 61), (61, s_getf 4 0 64), (64, s_iload 1 65), (65, s_inv mX2_stallAt 2 1 68), (68, s_iret), (69, s_aload 0 70), (70, s_pushi 0 71), (71, s_inv mX4_finding 4 1 74), (74, s_iret)]
set_option maxRecDepth 20000 in
theorem zX4_placeOf : ∀ q ∈ kX4_placeOf, Snd RX4 cX4_placeOf 3 (some .int) (rmM mX4_placeOf) q.1 q.2 :=
  fm (z_iload_n (j := 1) (by decide +kernel) rfl) (
  fm (z_invS (idx := 53) (by decide +kernel) wd_1_181 wd_1_182 wd_1_1 wd_1_183 (by decide +kernel) ⟨Nat.le_of_ble_eq_true rfl, Nat.le_of_ble_eq_true rfl⟩) (
  fm (z_if_ne (off := 9) (by decide +kernel) (by decide)) (
  fm (z_aload_n (j := 0) (by decide +kernel) rfl) (
  fm (z_iconst (n := 0) (by decide +kernel) (by decide)) (
  fm (z_inv (idx := 57) rfl (by decide +kernel) wd_1_184 wd_1_186 ws_0 wd_1_1 wd_1_187 (by decide +kernel) ⟨Nat.le_of_ble_eq_true rfl, Nat.le_of_ble_eq_true rfl⟩) (
  fm (z_iret rfl (by decide +kernel)) (
  fm (z_iload_n (j := 2) (by decide +kernel) rfl) (
  fm (z_tsw (dflt := 55) (lo := 0) (hi := 2) (offs := #[26, 36, 46]) (len := 26) (by decide +kernel) (by decide) rfl (by decide) (by decide +kernel)) (
  fm (z_aload_n (j := 0) (by decide +kernel) rfl) (
  fm (z_getf (idx := 10) awX4 rfl (by decide) wd_1_146 rfl (by decide +kernel)) (
  fm (z_getf (idx := 61) awX2 rfl (by decide) wd_1_32 rfl (by decide +kernel)) (
  fm (z_iload_n (j := 1) (by decide +kernel) rfl) (
  fm (z_iald (by decide +kernel)) (
  fm (z_iret rfl (by decide +kernel)) (
  fm (z_aload_n (j := 0) (by decide +kernel) rfl) (
  fm (z_getf (idx := 10) awX4 rfl (by decide) wd_1_146 rfl (by decide +kernel)) (
  fm (z_getf (idx := 64) awX2 rfl (by decide) wd_1_35 rfl (by decide +kernel)) (
  fm (z_iload_n (j := 1) (by decide +kernel) rfl) (
  fm (z_iald (by decide +kernel)) (
  fm (z_iret rfl (by decide +kernel)) (
  fm (z_aload_n (j := 0) (by decide +kernel) rfl) (
  fm (z_getf (idx := 10) awX4 rfl (by decide) wd_1_146 rfl (by decide +kernel)) (
  fm (z_iload_n (j := 1) (by decide +kernel) rfl) (
  fm (z_inv (idx := 74) rfl (by decide +kernel) wd_1_204 wd_1_205 wd_1_206 wd_1_2 wd_1_207 (by decide +kernel) ⟨Nat.le_of_ble_eq_true rfl, Nat.le_of_ble_eq_true rfl⟩) (
  fm (z_iret rfl (by decide +kernel)) (
  fm (z_aload_n (j := 0) (by decide +kernel) rfl) (
  fm (z_iconst (n := 0) (by decide +kernel) (by decide)) (
  fm (z_inv (idx := 57) rfl (by decide +kernel) wd_1_184 wd_1_186 ws_0 wd_1_1 wd_1_187 (by decide +kernel) ⟨Nat.le_of_ble_eq_true rfl, Nat.le_of_ble_eq_true rfl⟩) (
  fm (z_iret rfl (by decide +kernel)) (fn))))))))))))))))))))))))))))))
def kX4_searchMost : Cd := [(0, s_pushi (-1) 1), (1, s_istore 2 2), (2, s_aload 0 3), (3, s_getf 4 3 6), (6, s_aload 0 7), (7, s_getf 4 0 10), (10, s_getf 2 9 13), (13, s_inv mX0_begin 0 1 16), (16, s_istore 3 17), (17, s_pushi 0 18), (18, s_istore 4 20), (20, s_iload 4 22), (22, s_iload 3 23), (23, s_icmp (fun x y => y ≤ x) 73 26), (26, s_aload 0 27), (27, s_inv mX4_tryOrder 4 0 30), (30, s_aload 0 31), (31, s_getf 4 1 34), (34, s_iload 1 35), (35, s_inv mX2_passHours 2 1 38), (38, s_istore 5 40), (40, s_iload 5 42), (42, s_iload 2 43), (43, s_icmp (fun x y => x ≤ y) 60 46), (46, s_iload 5 48), (48, s_istore 2 49), (49, s_aload 0 50), (50, s_getf 4 4 53), (53, s_aload 0 54), (54, s_getf 4 3 57), (57, s_inv mX0_become 0 1 60), (60, s_aload 0 61), (61, s_getf 4 3 64), (64, s_inv mX0_advance 0 0 67), (67, s_iinc 4 1 70), (70, s_goto 20), (73, s_iload 2 74), (74, s_iret)]
set_option maxRecDepth 20000 in
theorem zX4_searchMost : ∀ q ∈ kX4_searchMost, Snd RX4 cX4_searchMost 6 (some .int) (rmM mX4_searchMost) q.1 q.2 :=
  fm (z_iconst (n := (-1)) (by decide +kernel) (by decide)) (
  fm (z_istore_n (j := 2) (by decide +kernel) rfl (by decide)) (
  fm (z_aload_n (j := 0) (by decide +kernel) rfl) (
  fm (z_getf (idx := 25) awX4 rfl (by decide) wd_1_149 rfl (by decide +kernel)) (
  fm (z_aload_n (j := 0) (by decide +kernel) rfl) (
  fm (z_getf (idx := 10) awX4 rfl (by decide) wd_1_146 rfl (by decide +kernel)) (
  fm (z_getf (idx := 77) awX2 rfl (by decide) wd_1_54 rfl (by decide +kernel)) (
  fm (z_inv (idx := 165) rfl (by decide +kernel) wd_2_128 wd_2_129 wd_2_130 wd_1_4 wd_2_131 (by decide +kernel) ⟨Nat.le_of_ble_eq_true rfl, Nat.le_of_ble_eq_true rfl⟩) (
  fm (z_istore_n (j := 3) (by decide +kernel) rfl (by decide)) (
  fm (z_iconst (n := 0) (by decide +kernel) (by decide)) (
  fm (z_istore (i := 4) (by decide +kernel) (by decide)) (
  fm (z_iload (i := 4) (by decide +kernel)) (
  fm (z_iload_n (j := 3) (by decide +kernel) rfl) (
  fm (z_icmp_ge (off := 50) (by decide +kernel) (by decide)) (
  fm (z_aload_n (j := 0) (by decide +kernel) rfl) (
  fm (z_inv (idx := 168) rfl (by decide +kernel) wd_2_132 wd_2_134 ws_7 wd_1_1 wd_2_135 (by decide +kernel) ⟨Nat.le_of_ble_eq_true rfl, Nat.le_of_ble_eq_true rfl⟩) (
  fm (z_aload_n (j := 0) (by decide +kernel) rfl) (
  fm (z_getf (idx := 16) awX4 rfl (by decide) wd_1_147 rfl (by decide +kernel)) (
  fm (z_iload_n (j := 1) (by decide +kernel) rfl) (
  fm (z_inv (idx := 119) rfl (by decide +kernel) wd_2_26 wd_2_27 wd_2_28 wd_1_2 wd_2_29 (by decide +kernel) ⟨Nat.le_of_ble_eq_true rfl, Nat.le_of_ble_eq_true rfl⟩) (
  fm (z_istore (i := 5) (by decide +kernel) (by decide)) (
  fm (z_iload (i := 5) (by decide +kernel)) (
  fm (z_iload_n (j := 2) (by decide +kernel) rfl) (
  fm (z_icmp_le (off := 17) (by decide +kernel) (by decide)) (
  fm (z_iload (i := 5) (by decide +kernel)) (
  fm (z_istore_n (j := 2) (by decide +kernel) rfl (by decide)) (
  fm (z_aload_n (j := 0) (by decide +kernel) rfl) (
  fm (z_getf (idx := 29) awX4 rfl (by decide) wd_1_150 rfl (by decide +kernel)) (
  fm (z_aload_n (j := 0) (by decide +kernel) rfl) (
  fm (z_getf (idx := 25) awX4 rfl (by decide) wd_1_149 rfl (by decide +kernel)) (
  fm (z_inv (idx := 274) rfl (by decide +kernel) wd_2_136 wd_2_137 wd_2_138 wd_1_4 wd_2_139 (by decide +kernel) ⟨Nat.le_of_ble_eq_true rfl, Nat.le_of_ble_eq_true rfl⟩) (
  fm (z_aload_n (j := 0) (by decide +kernel) rfl) (
  fm (z_getf (idx := 25) awX4 rfl (by decide) wd_1_149 rfl (by decide +kernel)) (
  fm (z_inv (idx := 171) rfl (by decide +kernel) wd_2_141 wd_2_142 wd_2_143 wd_1_4 wd_2_144 (by decide +kernel) ⟨Nat.le_of_ble_eq_true rfl, Nat.le_of_ble_eq_true rfl⟩) (
  fm (z_iinc (n := 1) (by decide +kernel) (by decide) (by decide)) (
  fm (z_goto (off := (-50)) (by decide +kernel) (by decide)) (
  fm (z_iload_n (j := 2) (by decide +kernel) rfl) (
  fm (z_iret rfl (by decide +kernel)) (fn))))))))))))))))))))))))))))))))))))))
def kX4_seed : Cd := [(0, s_aload 0 1), (1, s_getf 4 0 4), (4, s_getf 2 11 7), (7, s_istore 2 8), (8, s_aload 0 9), (9, s_getf 4 0 12), (12, s_iload 1 13), (13, s_putf .int 2 11 16), (16, s_iload 2 17), (17, s_iret)]
set_option maxRecDepth 20000 in
theorem zX4_seed : ∀ q ∈ kX4_seed, Snd RX4 cX4_seed 3 (some .int) (rmM mX4_seed) q.1 q.2 :=
  fm (z_aload_n (j := 0) (by decide +kernel) rfl) (
  fm (z_getf (idx := 10) awX4 rfl (by decide) wd_1_146 rfl (by decide +kernel)) (
  fm (z_getf (idx := 201) awX2 rfl (by decide) wd_1_59 rfl (by decide +kernel)) (
  fm (z_istore_n (j := 2) (by decide +kernel) rfl (by decide)) (
  fm (z_aload_n (j := 0) (by decide +kernel) rfl) (
  fm (z_getf (idx := 10) awX4 rfl (by decide) wd_1_146 rfl (by decide +kernel)) (
  fm (z_iload_n (j := 1) (by decide +kernel) rfl) (
  fm (z_putf (idx := 201) tyX2 tyX2_ok nmX2 awX2 rfl (by decide) wd_1_59 rfl rfl (by decide +kernel) (by decide +kernel)) (
  fm (z_iload_n (j := 2) (by decide +kernel) rfl) (
  fm (z_iret rfl (by decide +kernel)) (fn))))))))))
def kX4_shade : Cd := [(0, s_iload 1 1), (1, s_invS mX4_isPlace 1 4), (4, s_if (fun x => x = 0) 7 13), (7, s_aload 0 8), (8, s_pushi 0 9), (9, s_inv mX4_finding 4 1 12), (12, s_iret), (13, s_aload 0 14), (14, s_getf 4 0 17), (17, s_getf 2 1 20), (20, s_iload 1 21), (21, s_iald 22), (22, s_istore 3 23), (23, s_aload 0 24), (24, s_getf 4 0 27), (27, s_getf 2 1 30), (30, s_iload 1 31), (31, s_iload 2 32), (32, s_if (fun x => x = 0) 39 35), (35, s_pushi 1 36), (36, s_goto 40), (39, s_pushi 0 40), (40, s_iast 41), (41, s_iload 3 42), (42, s_iret)]
set_option maxRecDepth 20000 in
theorem zX4_shade : ∀ q ∈ kX4_shade, Snd RX4 cX4_shade 4 (some .int) (rmM mX4_shade) q.1 q.2 :=
  fm (z_iload_n (j := 1) (by decide +kernel) rfl) (
  fm (z_invS (idx := 53) (by decide +kernel) wd_1_181 wd_1_182 wd_1_1 wd_1_183 (by decide +kernel) ⟨Nat.le_of_ble_eq_true rfl, Nat.le_of_ble_eq_true rfl⟩) (
  fm (z_if_ne (off := 9) (by decide +kernel) (by decide)) (
  fm (z_aload_n (j := 0) (by decide +kernel) rfl) (
  fm (z_iconst (n := 0) (by decide +kernel) (by decide)) (
  fm (z_inv (idx := 57) rfl (by decide +kernel) wd_1_184 wd_1_186 ws_0 wd_1_1 wd_1_187 (by decide +kernel) ⟨Nat.le_of_ble_eq_true rfl, Nat.le_of_ble_eq_true rfl⟩) (
  fm (z_iret rfl (by decide +kernel)) (
  fm (z_aload_n (j := 0) (by decide +kernel) rfl) (
  fm (z_getf (idx := 10) awX4 rfl (by decide) wd_1_146 rfl (by decide +kernel)) (
  fm (z_getf (idx := 64) awX2 rfl (by decide) wd_1_35 rfl (by decide +kernel)) (
  fm (z_iload_n (j := 1) (by decide +kernel) rfl) (
  fm (z_iald (by decide +kernel)) (
  fm (z_istore_n (j := 3) (by decide +kernel) rfl (by decide)) (
  fm (z_aload_n (j := 0) (by decide +kernel) rfl) (
  fm (z_getf (idx := 10) awX4 rfl (by decide) wd_1_146 rfl (by decide +kernel)) (
  fm (z_getf (idx := 64) awX2 rfl (by decide) wd_1_35 rfl (by decide +kernel)) (
  fm (z_iload_n (j := 1) (by decide +kernel) rfl) (
  fm (z_iload_n (j := 2) (by decide +kernel) rfl) (
  fm (z_if_eq (off := 7) (by decide +kernel) (by decide)) (
  fm (z_iconst (n := 1) (by decide +kernel) (by decide)) (
  fm (z_goto (off := 4) (by decide +kernel) (by decide)) (
  fm (z_iconst (n := 0) (by decide +kernel) (by decide)) (
  fm (z_iast (by decide +kernel)) (
  fm (z_iload_n (j := 3) (by decide +kernel) rfl) (
  fm (z_iret rfl (by decide +kernel)) (fn)))))))))))))))))))))))))
def kX4_sheet : Cd := [(0, s_iload 1 1), (1, s_invS mX4_isSheet 1 4), (4, s_if (fun x => x = 0) 29 7), (7, s_iload 2 8), (8, s_if (fun x => x = 0) 35 11), (11, s_iload 2 12), (12, s_pushi 8 14), (14, s_icmp (fun x y => x = y) 35 17), (17, s_iload 2 18), (18, s_pushi 16 20), (20, s_icmp (fun x y => x = y) 35 23), (23, s_iload 2 24), (24, s_pushi 32 26), (26, s_icmp (fun x y => x = y) 35 29), (29, s_aload 0 30), (30, s_pushi 0 31), (31, s_inv mX4_finding 4 1 34), (34, s_iret), (35, s_iload 3 36), (36, s_if (fun x => 0 ≤ x) 46 39), (39, s_aload 0 40), (40, s_pushi 6 42), (42, s_inv mX4_finding 4 1 45), (45, s_iret), (46, s_iload 3 47), (47, s_pushi 40 49), (49, s_icmp (fun x y => x ≤ y) 58 52), (52, s_aload 0 53), (53, s_pushi 0 54), (54, s_inv mX4_finding 4 1 57), (57, s_iret), (58, s_aload 0 59), (59, s_getf 4 6 62), (62, s_iload 1 63), (63, s_aald 64), (64, s_iload 2 65), (65, s_iload 2 66), (66, s_if (fun x => x = 0) 69 73), (69, s_pushi 0 70), (70, s_goto 74), (73, s_iload 3 74), (74, s_inv mX1_begin 1 2 77), (77, s_aload 0 78), (78, s_getf 4 6 81), (81, s_iload 1 82), (82, s_aald 83), (83, s_getf 1 2 86), (86, s_iret)]
set_option maxRecDepth 20000 in
theorem zX4_sheet : ∀ q ∈ kX4_sheet, Snd RX4 cX4_sheet 4 (some .int) (rmM mX4_sheet) q.1 q.2 :=
  fm (z_iload_n (j := 1) (by decide +kernel) rfl) (
  fm (z_invS (idx := 224) (by decide +kernel) wd_3_162 wd_3_163 wd_1_1 wd_3_164 (by decide +kernel) ⟨Nat.le_of_ble_eq_true rfl, Nat.le_of_ble_eq_true rfl⟩) (
  fm (z_if_eq (off := 25) (by decide +kernel) (by decide)) (
  fm (z_iload_n (j := 2) (by decide +kernel) rfl) (
  fm (z_if_eq (off := 27) (by decide +kernel) (by decide)) (
  fm (z_iload_n (j := 2) (by decide +kernel) rfl) (
  fm (z_bipush (n := 8) (by decide +kernel) (by decide)) (
  fm (z_icmp_eq (off := 21) (by decide +kernel) (by decide)) (
  fm (z_iload_n (j := 2) (by decide +kernel) rfl) (
  fm (z_bipush (n := 16) (by decide +kernel) (by decide)) (
  fm (z_icmp_eq (off := 15) (by decide +kernel) (by decide)) (
  fm (z_iload_n (j := 2) (by decide +kernel) rfl) (
  fm (z_bipush (n := 32) (by decide +kernel) (by decide)) (
  fm (z_icmp_eq (off := 9) (by decide +kernel) (by decide)) (
  fm (z_aload_n (j := 0) (by decide +kernel) rfl) (
  fm (z_iconst (n := 0) (by decide +kernel) (by decide)) (
  fm (z_inv (idx := 57) rfl (by decide +kernel) wd_1_184 wd_1_186 ws_0 wd_1_1 wd_1_187 (by decide +kernel) ⟨Nat.le_of_ble_eq_true rfl, Nat.le_of_ble_eq_true rfl⟩) (
  fm (z_iret rfl (by decide +kernel)) (
  fm (z_iload_n (j := 3) (by decide +kernel) rfl) (
  fm (z_if_ge (off := 10) (by decide +kernel) (by decide)) (
  fm (z_aload_n (j := 0) (by decide +kernel) rfl) (
  fm (z_bipush (n := 6) (by decide +kernel) (by decide)) (
  fm (z_inv (idx := 57) rfl (by decide +kernel) wd_1_184 wd_1_186 ws_0 wd_1_1 wd_1_187 (by decide +kernel) ⟨Nat.le_of_ble_eq_true rfl, Nat.le_of_ble_eq_true rfl⟩) (
  fm (z_iret rfl (by decide +kernel)) (
  fm (z_iload_n (j := 3) (by decide +kernel) rfl) (
  fm (z_bipush (n := 40) (by decide +kernel) (by decide)) (
  fm (z_icmp_le (off := 9) (by decide +kernel) (by decide)) (
  fm (z_aload_n (j := 0) (by decide +kernel) rfl) (
  fm (z_iconst (n := 0) (by decide +kernel) (by decide)) (
  fm (z_inv (idx := 57) rfl (by decide +kernel) wd_1_184 wd_1_186 ws_0 wd_1_1 wd_1_187 (by decide +kernel) ⟨Nat.le_of_ble_eq_true rfl, Nat.le_of_ble_eq_true rfl⟩) (
  fm (z_iret rfl (by decide +kernel)) (
  fm (z_aload_n (j := 0) (by decide +kernel) rfl) (
  fm (z_getf (idx := 41) awX4 rfl (by decide) wd_1_152 rfl (by decide +kernel)) (
  fm (z_iload_n (j := 1) (by decide +kernel) rfl) (
  fm (z_aald (by decide +kernel)) (
  fm (z_iload_n (j := 2) (by decide +kernel) rfl) (
  fm (z_iload_n (j := 2) (by decide +kernel) rfl) (
  fm (z_if_ne (off := 7) (by decide +kernel) (by decide)) (
  fm (z_iconst (n := 0) (by decide +kernel) (by decide)) (
  fm (z_goto (off := 4) (by decide +kernel) (by decide)) (
  fm (z_iload_n (j := 3) (by decide +kernel) rfl) (
  fm (z_inv (idx := 227) rfl (by decide +kernel) wd_3_165 wd_3_166 wd_3_167 wd_1_6 wd_3_168 (by decide +kernel) ⟨Nat.le_of_ble_eq_true rfl, Nat.le_of_ble_eq_true rfl⟩) (
  fm (z_aload_n (j := 0) (by decide +kernel) rfl) (
  fm (z_getf (idx := 41) awX4 rfl (by decide) wd_1_152 rfl (by decide +kernel)) (
  fm (z_iload_n (j := 1) (by decide +kernel) rfl) (
  fm (z_aald (by decide +kernel)) (
  fm (z_getf (idx := 229) awX1 rfl (by decide) wd_1_138 rfl (by decide +kernel)) (
  fm (z_iret rfl (by decide +kernel)) (fn))))))))))))))))))))))))))))))))))))))))))))))))
def kX4_sheetFinding : Cd := [(0, s_iload 1 1), (1, s_invS mX4_isSheet 1 4), (4, s_if (fun x => x = 0) 7 13), (7, s_aload 0 8), (8, s_pushi 0 9), (9, s_inv mX4_finding 4 1 12), (12, s_iret), (13, s_aload 0 14), (14, s_getf 4 6 17), (17, s_iload 1 18), (18, s_aald 19), (19, s_getf 1 1 22), (22, s_if (fun x => x = 0) 25 33), (25, s_aload 0 26), (26, s_pushi 5 27), (27, s_inv mX4_finding 4 1 30), (30, s_goto 34), (33, s_pushi 0 34), (34, s_iret)]
set_option maxRecDepth 20000 in
theorem zX4_sheetFinding : ∀ q ∈ kX4_sheetFinding, Snd RX4 cX4_sheetFinding 2 (some .int) (rmM mX4_sheetFinding) q.1 q.2 :=
  fm (z_iload_n (j := 1) (by decide +kernel) rfl) (
  fm (z_invS (idx := 224) (by decide +kernel) wd_3_162 wd_3_163 wd_1_1 wd_3_164 (by decide +kernel) ⟨Nat.le_of_ble_eq_true rfl, Nat.le_of_ble_eq_true rfl⟩) (
  fm (z_if_ne (off := 9) (by decide +kernel) (by decide)) (
  fm (z_aload_n (j := 0) (by decide +kernel) rfl) (
  fm (z_iconst (n := 0) (by decide +kernel) (by decide)) (
  fm (z_inv (idx := 57) rfl (by decide +kernel) wd_1_184 wd_1_186 ws_0 wd_1_1 wd_1_187 (by decide +kernel) ⟨Nat.le_of_ble_eq_true rfl, Nat.le_of_ble_eq_true rfl⟩) (
  fm (z_iret rfl (by decide +kernel)) (
  fm (z_aload_n (j := 0) (by decide +kernel) rfl) (
  fm (z_getf (idx := 41) awX4 rfl (by decide) wd_1_152 rfl (by decide +kernel)) (
  fm (z_iload_n (j := 1) (by decide +kernel) rfl) (
  fm (z_aald (by decide +kernel)) (
  fm (z_getf (idx := 235) awX1 rfl (by decide) wd_1_136 rfl (by decide +kernel)) (
  fm (z_if_ne (off := 11) (by decide +kernel) (by decide)) (
  fm (z_aload_n (j := 0) (by decide +kernel) rfl) (
  fm (z_iconst (n := 5) (by decide +kernel) (by decide)) (
  fm (z_inv (idx := 57) rfl (by decide +kernel) wd_1_184 wd_1_186 ws_0 wd_1_1 wd_1_187 (by decide +kernel) ⟨Nat.le_of_ble_eq_true rfl, Nat.le_of_ble_eq_true rfl⟩) (
  fm (z_goto (off := 4) (by decide +kernel) (by decide)) (
  fm (z_iconst (n := 0) (by decide +kernel) (by decide)) (
  fm (z_iret rfl (by decide +kernel)) (fn)))))))))))))))))))
def kX4_spring : Cd := [(0, s_iload 1 1), (1, s_invS mX4_isPlace 1 4), (4, s_if (fun x => x = 0) 7 13), (7, s_aload 0 8), (8, s_pushi 0 9), (9, s_inv mX4_finding 4 1 12), (12, s_iret), (13, s_aload 0 14), (14, s_getf 4 0 17), (17, s_getf 2 8 20), (20, s_istore 2 21), (21, s_aload 0 22), (22, s_getf 4 0 25), (25, s_iload 1 26), (26, s_putf .int 2 8 29), (29, s_iload 2 30), (30, s_iret)]
set_option maxRecDepth 20000 in
theorem zX4_spring : ∀ q ∈ kX4_spring, Snd RX4 cX4_spring 3 (some .int) (rmM mX4_spring) q.1 q.2 :=
  fm (z_iload_n (j := 1) (by decide +kernel) rfl) (
  fm (z_invS (idx := 53) (by decide +kernel) wd_1_181 wd_1_182 wd_1_1 wd_1_183 (by decide +kernel) ⟨Nat.le_of_ble_eq_true rfl, Nat.le_of_ble_eq_true rfl⟩) (
  fm (z_if_ne (off := 9) (by decide +kernel) (by decide)) (
  fm (z_aload_n (j := 0) (by decide +kernel) rfl) (
  fm (z_iconst (n := 0) (by decide +kernel) (by decide)) (
  fm (z_inv (idx := 57) rfl (by decide +kernel) wd_1_184 wd_1_186 ws_0 wd_1_1 wd_1_187 (by decide +kernel) ⟨Nat.le_of_ble_eq_true rfl, Nat.le_of_ble_eq_true rfl⟩) (
  fm (z_iret rfl (by decide +kernel)) (
  fm (z_aload_n (j := 0) (by decide +kernel) rfl) (
  fm (z_getf (idx := 10) awX4 rfl (by decide) wd_1_146 rfl (by decide +kernel)) (
  fm (z_getf (idx := 67) awX2 rfl (by decide) wd_1_51 rfl (by decide +kernel)) (
  fm (z_istore_n (j := 2) (by decide +kernel) rfl (by decide)) (
  fm (z_aload_n (j := 0) (by decide +kernel) rfl) (
  fm (z_getf (idx := 10) awX4 rfl (by decide) wd_1_146 rfl (by decide +kernel)) (
  fm (z_iload_n (j := 1) (by decide +kernel) rfl) (
  fm (z_putf (idx := 67) tyX2 tyX2_ok nmX2 awX2 rfl (by decide) wd_1_51 rfl rfl (by decide +kernel) (by decide +kernel)) (
  fm (z_iload_n (j := 2) (by decide +kernel) rfl) (
  fm (z_iret rfl (by decide +kernel)) (fn)))))))))))))))))
def kX4_stall : Cd := [(0, s_iload 1 1), (1, s_invS mX4_isKind 1 4), (4, s_if (fun x => x = 0) 14 7), (7, s_iload 2 8), (8, s_invS mX4_isPlace 1 11), (11, s_if (fun x => x = 0) 14 20), (14, s_aload 0 15), (15, s_pushi 0 16), (16, s_inv mX4_finding 4 1 19), (19, s_iret), (20, s_aload 0 21), (21, s_getf 4 0 24), (24, s_iload 2 25), (25, s_inv mX2_stallAt 2 1 28), (28, s_if (fun x => x < 0) 37 31), (31, s_aload 0 32), (32, s_pushi 4 33), (33, s_inv mX4_finding 4 1 36), (36, s_iret), (37, s_aload 0 38), (38, s_getf 4 0 41), (41, s_getf 2 9 44), (44, s_pushi 8 46), (46, s_icmp (fun x y => x < y) 55 49), (49, s_aload 0 50), (50, s_pushi 1 51), (51, s_inv mX4_finding 4 1 54), (54, s_iret), (55, s_aload 0 56), (56, s_getf 4 0 59), (59, s_iload 1 60), (60, s_iload 2 61), (61, s_inv mX2_addStall 2 2 64), (64, s_iret)]
set_option maxRecDepth 20000 in
theorem zX4_stall : ∀ q ∈ kX4_stall, Snd RX4 cX4_stall 3 (some .int) (rmM mX4_stall) q.1 q.2 :=
  fm (z_iload_n (j := 1) (by decide +kernel) rfl) (
  fm (z_invS (idx := 71) (by decide +kernel) wd_1_201 wd_1_202 wd_1_1 wd_1_203 (by decide +kernel) ⟨Nat.le_of_ble_eq_true rfl, Nat.le_of_ble_eq_true rfl⟩) (
  fm (z_if_eq (off := 10) (by decide +kernel) (by decide)) (
  fm (z_iload_n (j := 2) (by decide +kernel) rfl) (
  fm (z_invS (idx := 53) (by decide +kernel) wd_1_181 wd_1_182 wd_1_1 wd_1_183 (by decide +kernel) ⟨Nat.le_of_ble_eq_true rfl, Nat.le_of_ble_eq_true rfl⟩) (
  fm (z_if_ne (off := 9) (by decide +kernel) (by decide)) (
  fm (z_aload_n (j := 0) (by decide +kernel) rfl) (
  fm (z_iconst (n := 0) (by decide +kernel) (by decide)) (
  fm (z_inv (idx := 57) rfl (by decide +kernel) wd_1_184 wd_1_186 ws_0 wd_1_1 wd_1_187 (by decide +kernel) ⟨Nat.le_of_ble_eq_true rfl, Nat.le_of_ble_eq_true rfl⟩) (
  fm (z_iret rfl (by decide +kernel)) (
  fm (z_aload_n (j := 0) (by decide +kernel) rfl) (
  fm (z_getf (idx := 10) awX4 rfl (by decide) wd_1_146 rfl (by decide +kernel)) (
  fm (z_iload_n (j := 2) (by decide +kernel) rfl) (
  fm (z_inv (idx := 74) rfl (by decide +kernel) wd_1_204 wd_1_205 wd_1_206 wd_1_2 wd_1_207 (by decide +kernel) ⟨Nat.le_of_ble_eq_true rfl, Nat.le_of_ble_eq_true rfl⟩) (
  fm (z_if_lt (off := 9) (by decide +kernel) (by decide)) (
  fm (z_aload_n (j := 0) (by decide +kernel) rfl) (
  fm (z_iconst (n := 4) (by decide +kernel) (by decide)) (
  fm (z_inv (idx := 57) rfl (by decide +kernel) wd_1_184 wd_1_186 ws_0 wd_1_1 wd_1_187 (by decide +kernel) ⟨Nat.le_of_ble_eq_true rfl, Nat.le_of_ble_eq_true rfl⟩) (
  fm (z_iret rfl (by decide +kernel)) (
  fm (z_aload_n (j := 0) (by decide +kernel) rfl) (
  fm (z_getf (idx := 10) awX4 rfl (by decide) wd_1_146 rfl (by decide +kernel)) (
  fm (z_getf (idx := 77) awX2 rfl (by decide) wd_1_54 rfl (by decide +kernel)) (
  fm (z_bipush (n := 8) (by decide +kernel) (by decide)) (
  fm (z_icmp_lt (off := 9) (by decide +kernel) (by decide)) (
  fm (z_aload_n (j := 0) (by decide +kernel) rfl) (
  fm (z_iconst (n := 1) (by decide +kernel) (by decide)) (
  fm (z_inv (idx := 57) rfl (by decide +kernel) wd_1_184 wd_1_186 ws_0 wd_1_1 wd_1_187 (by decide +kernel) ⟨Nat.le_of_ble_eq_true rfl, Nat.le_of_ble_eq_true rfl⟩) (
  fm (z_iret rfl (by decide +kernel)) (
  fm (z_aload_n (j := 0) (by decide +kernel) rfl) (
  fm (z_getf (idx := 10) awX4 rfl (by decide) wd_1_146 rfl (by decide +kernel)) (
  fm (z_iload_n (j := 1) (by decide +kernel) rfl) (
  fm (z_iload_n (j := 2) (by decide +kernel) rfl) (
  fm (z_inv (idx := 80) rfl (by decide +kernel) wd_1_208 wd_1_209 wd_1_210 wd_1_2 wd_1_211 (by decide +kernel) ⟨Nat.le_of_ble_eq_true rfl, Nat.le_of_ble_eq_true rfl⟩) (
  fm (z_iret rfl (by decide +kernel)) (fn))))))))))))))))))))))))))))))))))
def kX4_status : Cd := [(0, s_iload 1 1), (1, s_pushi (-1) 2), (2, s_icmp (fun x y => x < y) 11 5), (5, s_iload 1 6), (6, s_pushi 7 8), (8, s_icmp (fun x y => x < y) 17 11), (11, s_aload 0 12), (12, s_pushi 0 13), (13, s_inv mX4_finding 4 1 16), (16, s_iret), (17, s_iload 1 18), (18, s_if (fun x => x < 0) 28 21), (21, s_aload 0 22), (22, s_getf 4 8 25), (25, s_iload 1 26), (26, s_iald 27), (27, s_iret), (28, s_pushi 0 29), (29, s_istore 2 30), (30, s_pushi 0 31), (31, s_istore 3 32), (32, s_iload 3 33), (33, s_pushi 7 35), (35, s_icmp (fun x y => y ≤ x) 53 38), (38, s_iload 2 39), (39, s_aload 0 40), (40, s_getf 4 8 43), (43, s_iload 3 44), (44, s_iald 45), (45, s_bin (fun x y => x + y) 46), (46, s_istore 2 47), (47, s_iinc 3 1 50), (50, s_goto 32), (53, s_iload 2 54), (54, s_iret)]
set_option maxRecDepth 20000 in
theorem zX4_status : ∀ q ∈ kX4_status, Snd RX4 cX4_status 4 (some .int) (rmM mX4_status) q.1 q.2 :=
  fm (z_iload_n (j := 1) (by decide +kernel) rfl) (
  fm (z_iconst (n := (-1)) (by decide +kernel) (by decide)) (
  fm (z_icmp_lt (off := 9) (by decide +kernel) (by decide)) (
  fm (z_iload_n (j := 1) (by decide +kernel) rfl) (
  fm (z_bipush (n := 7) (by decide +kernel) (by decide)) (
  fm (z_icmp_lt (off := 9) (by decide +kernel) (by decide)) (
  fm (z_aload_n (j := 0) (by decide +kernel) rfl) (
  fm (z_iconst (n := 0) (by decide +kernel) (by decide)) (
  fm (z_inv (idx := 57) rfl (by decide +kernel) wd_1_184 wd_1_186 ws_0 wd_1_1 wd_1_187 (by decide +kernel) ⟨Nat.le_of_ble_eq_true rfl, Nat.le_of_ble_eq_true rfl⟩) (
  fm (z_iret rfl (by decide +kernel)) (
  fm (z_iload_n (j := 1) (by decide +kernel) rfl) (
  fm (z_if_lt (off := 10) (by decide +kernel) (by decide)) (
  fm (z_aload_n (j := 0) (by decide +kernel) rfl) (
  fm (z_getf (idx := 49) awX4 rfl (by decide) wd_1_154 rfl (by decide +kernel)) (
  fm (z_iload_n (j := 1) (by decide +kernel) rfl) (
  fm (z_iald (by decide +kernel)) (
  fm (z_iret rfl (by decide +kernel)) (
  fm (z_iconst (n := 0) (by decide +kernel) (by decide)) (
  fm (z_istore_n (j := 2) (by decide +kernel) rfl (by decide)) (
  fm (z_iconst (n := 0) (by decide +kernel) (by decide)) (
  fm (z_istore_n (j := 3) (by decide +kernel) rfl (by decide)) (
  fm (z_iload_n (j := 3) (by decide +kernel) rfl) (
  fm (z_bipush (n := 7) (by decide +kernel) (by decide)) (
  fm (z_icmp_ge (off := 18) (by decide +kernel) (by decide)) (
  fm (z_iload_n (j := 2) (by decide +kernel) rfl) (
  fm (z_aload_n (j := 0) (by decide +kernel) rfl) (
  fm (z_getf (idx := 49) awX4 rfl (by decide) wd_1_154 rfl (by decide +kernel)) (
  fm (z_iload_n (j := 3) (by decide +kernel) rfl) (
  fm (z_iald (by decide +kernel)) (
  fm (z_iadd (by decide +kernel)) (
  fm (z_istore_n (j := 2) (by decide +kernel) rfl (by decide)) (
  fm (z_iinc (n := 1) (by decide +kernel) (by decide) (by decide)) (
  fm (z_goto (off := (-18)) (by decide +kernel) (by decide)) (
  fm (z_iload_n (j := 2) (by decide +kernel) rfl) (
  fm (z_iret rfl (by decide +kernel)) (fn)))))))))))))))))))))))))))))))))))
def kX4_stay : Cd := [(0, s_aload 0 1), (1, s_getf 4 1 4), (4, s_aload 0 5), (5, s_getf 4 0 8), (8, s_inv mX2_become 2 1 11), (11, s_aload 0 12), (12, s_getf 4 1 15), (15, s_inv mX2_sellAll 2 0 18), (18, s_pop 19), (19, s_aload 0 20), (20, s_getf 4 1 23), (23, s_inv mX2_stayers 2 0 26), (26, s_iret)]
set_option maxRecDepth 20000 in
theorem zX4_stay : ∀ q ∈ kX4_stay, Snd RX4 cX4_stay 1 (some .int) (rmM mX4_stay) q.1 q.2 :=
  fm (z_aload_n (j := 0) (by decide +kernel) rfl) (
  fm (z_getf (idx := 16) awX4 rfl (by decide) wd_1_147 rfl (by decide +kernel)) (
  fm (z_aload_n (j := 0) (by decide +kernel) rfl) (
  fm (z_getf (idx := 10) awX4 rfl (by decide) wd_1_146 rfl (by decide +kernel)) (
  fm (z_inv (idx := 122) rfl (by decide +kernel) wd_2_64 wd_2_65 wd_2_66 wd_1_2 wd_2_67 (by decide +kernel) ⟨Nat.le_of_ble_eq_true rfl, Nat.le_of_ble_eq_true rfl⟩) (
  fm (z_aload_n (j := 0) (by decide +kernel) rfl) (
  fm (z_getf (idx := 16) awX4 rfl (by decide) wd_1_147 rfl (by decide +kernel)) (
  fm (z_inv (idx := 126) rfl (by decide +kernel) wd_2_71 wd_2_35 wd_2_36 wd_1_2 wd_2_37 (by decide +kernel) ⟨Nat.le_of_ble_eq_true rfl, Nat.le_of_ble_eq_true rfl⟩) (
  fm (z_pop (by decide +kernel)) (
  fm (z_aload_n (j := 0) (by decide +kernel) rfl) (
  fm (z_getf (idx := 16) awX4 rfl (by decide) wd_1_147 rfl (by decide +kernel)) (
  fm (z_inv (idx := 130) rfl (by decide +kernel) wd_2_72 wd_2_48 wd_2_49 wd_1_2 wd_2_50 (by decide +kernel) ⟨Nat.le_of_ble_eq_true rfl, Nat.le_of_ble_eq_true rfl⟩) (
  fm (z_iret rfl (by decide +kernel)) (fn)))))))))))))
def kX4_swap : Cd := [(0, s_aload 0 1), (1, s_iload 1 2), (2, s_inv mX4_isStall 4 1 5), (5, s_if (fun x => x = 0) 16 8), (8, s_aload 0 9), (9, s_iload 2 10), (10, s_inv mX4_isStall 4 1 13), (13, s_if (fun x => x = 0) 16 22), (16, s_aload 0 17), (17, s_pushi 0 18), (18, s_inv mX4_finding 4 1 21), (21, s_iret), (22, s_aload 0 23), (23, s_getf 4 0 26), (26, s_iload 1 27), (27, s_iload 2 28), (28, s_inv mX2_exchange 2 2 31), (31, s_pushi 1 32), (32, s_iret)]
set_option maxRecDepth 20000 in
theorem zX4_swap : ∀ q ∈ kX4_swap, Snd RX4 cX4_swap 3 (some .int) (rmM mX4_swap) q.1 q.2 :=
  fm (z_aload_n (j := 0) (by decide +kernel) rfl) (
  fm (z_iload_n (j := 1) (by decide +kernel) rfl) (
  fm (z_inv (idx := 84) rfl (by decide +kernel) wd_1_216 wd_1_218 ws_1 wd_1_1 wd_1_219 (by decide +kernel) ⟨Nat.le_of_ble_eq_true rfl, Nat.le_of_ble_eq_true rfl⟩) (
  fm (z_if_eq (off := 11) (by decide +kernel) (by decide)) (
  fm (z_aload_n (j := 0) (by decide +kernel) rfl) (
  fm (z_iload_n (j := 2) (by decide +kernel) rfl) (
  fm (z_inv (idx := 84) rfl (by decide +kernel) wd_1_216 wd_1_218 ws_1 wd_1_1 wd_1_219 (by decide +kernel) ⟨Nat.le_of_ble_eq_true rfl, Nat.le_of_ble_eq_true rfl⟩) (
  fm (z_if_ne (off := 9) (by decide +kernel) (by decide)) (
  fm (z_aload_n (j := 0) (by decide +kernel) rfl) (
  fm (z_iconst (n := 0) (by decide +kernel) (by decide)) (
  fm (z_inv (idx := 57) rfl (by decide +kernel) wd_1_184 wd_1_186 ws_0 wd_1_1 wd_1_187 (by decide +kernel) ⟨Nat.le_of_ble_eq_true rfl, Nat.le_of_ble_eq_true rfl⟩) (
  fm (z_iret rfl (by decide +kernel)) (
  fm (z_aload_n (j := 0) (by decide +kernel) rfl) (
  fm (z_getf (idx := 10) awX4 rfl (by decide) wd_1_146 rfl (by decide +kernel)) (
  fm (z_iload_n (j := 1) (by decide +kernel) rfl) (
  fm (z_iload_n (j := 2) (by decide +kernel) rfl) (
  fm (z_inv (idx := 108) rfl (by decide +kernel) wd_1_238 wd_1_239 wd_2_0 wd_1_2 wd_2_1 (by decide +kernel) ⟨Nat.le_of_ble_eq_true rfl, Nat.le_of_ble_eq_true rfl⟩) (
  fm (z_iconst (n := 1) (by decide +kernel) (by decide)) (
  fm (z_iret rfl (by decide +kernel)) (fn)))))))))))))))))))
def kX4_swapAhead : Cd := [(0, s_aload 0 1), (1, s_getf 4 1 4), (4, s_aload 0 5), (5, s_getf 4 0 8), (8, s_inv mX2_become 2 1 11), (11, s_aload 0 12), (12, s_getf 4 1 15), (15, s_iload 1 16), (16, s_iload 2 17), (17, s_inv mX2_exchange 2 2 20), (20, s_aload 0 21), (21, s_getf 4 1 24), (24, s_iload 3 25), (25, s_inv mX2_passHours 2 1 28), (28, s_pop 29), (29, s_vret)]
set_option maxRecDepth 20000 in
theorem zX4_swapAhead : ∀ q ∈ kX4_swapAhead, Snd RX4 cX4_swapAhead 4 none (rmM mX4_swapAhead) q.1 q.2 :=
  fm (z_aload_n (j := 0) (by decide +kernel) rfl) (
  fm (z_getf (idx := 16) awX4 rfl (by decide) wd_1_147 rfl (by decide +kernel)) (
  fm (z_aload_n (j := 0) (by decide +kernel) rfl) (
  fm (z_getf (idx := 10) awX4 rfl (by decide) wd_1_146 rfl (by decide +kernel)) (
  fm (z_inv (idx := 122) rfl (by decide +kernel) wd_2_64 wd_2_65 wd_2_66 wd_1_2 wd_2_67 (by decide +kernel) ⟨Nat.le_of_ble_eq_true rfl, Nat.le_of_ble_eq_true rfl⟩) (
  fm (z_aload_n (j := 0) (by decide +kernel) rfl) (
  fm (z_getf (idx := 16) awX4 rfl (by decide) wd_1_147 rfl (by decide +kernel)) (
  fm (z_iload_n (j := 1) (by decide +kernel) rfl) (
  fm (z_iload_n (j := 2) (by decide +kernel) rfl) (
  fm (z_inv (idx := 108) rfl (by decide +kernel) wd_1_238 wd_1_239 wd_2_0 wd_1_2 wd_2_1 (by decide +kernel) ⟨Nat.le_of_ble_eq_true rfl, Nat.le_of_ble_eq_true rfl⟩) (
  fm (z_aload_n (j := 0) (by decide +kernel) rfl) (
  fm (z_getf (idx := 16) awX4 rfl (by decide) wd_1_147 rfl (by decide +kernel)) (
  fm (z_iload_n (j := 3) (by decide +kernel) rfl) (
  fm (z_inv (idx := 119) rfl (by decide +kernel) wd_2_26 wd_2_27 wd_2_28 wd_1_2 wd_2_29 (by decide +kernel) ⟨Nat.le_of_ble_eq_true rfl, Nat.le_of_ble_eq_true rfl⟩) (
  fm (z_pop (by decide +kernel)) (
  fm (z_vret rfl (by decide +kernel)) (fn))))))))))))))))
def kX4_tear : Cd := [(0, s_aload 0 1), (1, s_getf 4 9 4), (4, s_if (fun x => x = 0) 11 7), (7, s_pushi 1 8), (8, s_goto 12), (11, s_pushi 0 12), (12, s_istore 1 13), (13, s_aload 0 14), (14, s_pushi 0 15), (15, s_putf .boolean 4 9 18), (18, s_iload 1 19), (19, s_iret)]
set_option maxRecDepth 20000 in
theorem zX4_tear : ∀ q ∈ kX4_tear, Snd RX4 cX4_tear 2 (some .int) (rmM mX4_tear) q.1 q.2 :=
  fm (z_aload_n (j := 0) (by decide +kernel) rfl) (
  fm (z_getf (idx := 257) awX4 rfl (by decide) wd_1_155 rfl (by decide +kernel)) (
  fm (z_if_eq (off := 7) (by decide +kernel) (by decide)) (
  fm (z_iconst (n := 1) (by decide +kernel) (by decide)) (
  fm (z_goto (off := 4) (by decide +kernel) (by decide)) (
  fm (z_iconst (n := 0) (by decide +kernel) (by decide)) (
  fm (z_istore_n (j := 1) (by decide +kernel) rfl (by decide)) (
  fm (z_aload_n (j := 0) (by decide +kernel) rfl) (
  fm (z_iconst (n := 0) (by decide +kernel) (by decide)) (
  fm (z_putf (idx := 257) tyX4 tyX4_ok nmX4 awX4 rfl (by decide) wd_1_155 rfl rfl (by decide +kernel) (by decide +kernel)) (
  fm (z_iload_n (j := 1) (by decide +kernel) rfl) (
  fm (z_iret rfl (by decide +kernel)) (fn))))))))))))
def kX4_text : Cd := [(0, s_aload 0 1), (1, s_getf 4 1 4), (4, s_aload 0 5), (5, s_getf 4 0 8), (8, s_inv mX2_become 2 1 11), (11, s_aload 0 12), (12, s_getf 4 5 15), (15, s_aload 0 16), (16, s_getf 4 1 19), (19, s_inv mX3_readText 3 1 22), (22, s_istore 1 23), (23, s_aload 0 24), (24, s_getf 4 5 27), (27, s_pushi 0 28), (28, s_putf .int 3 1 31), (31, s_iload 1 32), (32, s_if (fun x => x < 0) 46 35), (35, s_aload 0 36), (36, s_getf 4 0 39), (39, s_aload 0 40), (40, s_getf 4 1 43), (43, s_inv mX2_become 2 1 46), (46, s_iload 1 47), (47, s_iret)]
set_option maxRecDepth 20000 in
theorem zX4_text : ∀ q ∈ kX4_text, Snd RX4 cX4_text 2 (some .int) (rmM mX4_text) q.1 q.2 :=
  fm (z_aload_n (j := 0) (by decide +kernel) rfl) (
  fm (z_getf (idx := 16) awX4 rfl (by decide) wd_1_147 rfl (by decide +kernel)) (
  fm (z_aload_n (j := 0) (by decide +kernel) rfl) (
  fm (z_getf (idx := 10) awX4 rfl (by decide) wd_1_146 rfl (by decide +kernel)) (
  fm (z_inv (idx := 122) rfl (by decide +kernel) wd_2_64 wd_2_65 wd_2_66 wd_1_2 wd_2_67 (by decide +kernel) ⟨Nat.le_of_ble_eq_true rfl, Nat.le_of_ble_eq_true rfl⟩) (
  fm (z_aload_n (j := 0) (by decide +kernel) rfl) (
  fm (z_getf (idx := 35) awX4 rfl (by decide) wd_1_151 rfl (by decide +kernel)) (
  fm (z_aload_n (j := 0) (by decide +kernel) rfl) (
  fm (z_getf (idx := 16) awX4 rfl (by decide) wd_1_147 rfl (by decide +kernel)) (
  fm (z_inv (idx := 211) rfl (by decide +kernel) wd_3_20 wd_3_21 wd_3_22 wd_1_5 wd_3_23 (by decide +kernel) ⟨Nat.le_of_ble_eq_true rfl, Nat.le_of_ble_eq_true rfl⟩) (
  fm (z_istore_n (j := 1) (by decide +kernel) rfl (by decide)) (
  fm (z_aload_n (j := 0) (by decide +kernel) rfl) (
  fm (z_getf (idx := 35) awX4 rfl (by decide) wd_1_151 rfl (by decide +kernel)) (
  fm (z_iconst (n := 0) (by decide +kernel) (by decide)) (
  fm (z_putf (idx := 204) tyX3 tyX3_ok nmX3 awX3 rfl (by decide) wd_1_108 rfl rfl (by decide +kernel) (by decide +kernel)) (
  fm (z_iload_n (j := 1) (by decide +kernel) rfl) (
  fm (z_if_lt (off := 14) (by decide +kernel) (by decide)) (
  fm (z_aload_n (j := 0) (by decide +kernel) rfl) (
  fm (z_getf (idx := 10) awX4 rfl (by decide) wd_1_146 rfl (by decide +kernel)) (
  fm (z_aload_n (j := 0) (by decide +kernel) rfl) (
  fm (z_getf (idx := 16) awX4 rfl (by decide) wd_1_147 rfl (by decide +kernel)) (
  fm (z_inv (idx := 122) rfl (by decide +kernel) wd_2_64 wd_2_65 wd_2_66 wd_1_2 wd_2_67 (by decide +kernel) ⟨Nat.le_of_ble_eq_true rfl, Nat.le_of_ble_eq_true rfl⟩) (
  fm (z_iload_n (j := 1) (by decide +kernel) rfl) (
  fm (z_iret rfl (by decide +kernel)) (fn))))))))))))))))))))))))
def kX4_there : Cd := [(0, s_aload 0 1), (1, s_iload 1 2), (2, s_invS mX4_isPlace 1 5), (5, s_iload 2 6), (6, s_pushi 0 7), (7, s_pushi 96 9), (9, s_inv mX4_aheadFinding 4 4 12), (12, s_istore 3 13), (13, s_iload 3 14), (14, s_if (fun x => x = 0) 19 17), (17, s_iload 3 18), (18, s_iret), (19, s_aload 0 20), (20, s_getf 4 1 23), (23, s_aload 0 24), (24, s_getf 4 0 27), (27, s_inv mX2_become 2 1 30), (30, s_aload 0 31), (31, s_getf 4 1 34), (34, s_iload 2 35), (35, s_inv mX2_passHours 2 1 38), (38, s_pop 39), (39, s_aload 0 40), (40, s_getf 4 1 43), (43, s_iload 1 44), (44, s_inv mX2_stallAt 2 1 47), (47, s_istore 4 49), (49, s_iload 4 51), (51, s_if (fun x => x < 0) 59 54), (54, s_iload 4 56), (56, s_goto 64), (59, s_aload 0 60), (60, s_pushi 3 61), (61, s_inv mX4_finding 4 1 64), (64, s_iret)]
set_option maxRecDepth 20000 in
theorem zX4_there : ∀ q ∈ kX4_there, Snd RX4 cX4_there 5 (some .int) (rmM mX4_there) q.1 q.2 :=
  fm (z_aload_n (j := 0) (by decide +kernel) rfl) (
  fm (z_iload_n (j := 1) (by decide +kernel) rfl) (
  fm (z_invS (idx := 53) (by decide +kernel) wd_1_181 wd_1_182 wd_1_1 wd_1_183 (by decide +kernel) ⟨Nat.le_of_ble_eq_true rfl, Nat.le_of_ble_eq_true rfl⟩) (
  fm (z_iload_n (j := 2) (by decide +kernel) rfl) (
  fm (z_iconst (n := 0) (by decide +kernel) (by decide)) (
  fm (z_bipush (n := 96) (by decide +kernel) (by decide)) (
  fm (z_inv (idx := 115) rfl (by decide +kernel) wd_2_22 wd_2_24 ws_3 wd_1_1 wd_2_25 (by decide +kernel) ⟨Nat.le_of_ble_eq_true rfl, Nat.le_of_ble_eq_true rfl⟩) (
  fm (z_istore_n (j := 3) (by decide +kernel) rfl (by decide)) (
  fm (z_iload_n (j := 3) (by decide +kernel) rfl) (
  fm (z_if_eq (off := 5) (by decide +kernel) (by decide)) (
  fm (z_iload_n (j := 3) (by decide +kernel) rfl) (
  fm (z_iret rfl (by decide +kernel)) (
  fm (z_aload_n (j := 0) (by decide +kernel) rfl) (
  fm (z_getf (idx := 16) awX4 rfl (by decide) wd_1_147 rfl (by decide +kernel)) (
  fm (z_aload_n (j := 0) (by decide +kernel) rfl) (
  fm (z_getf (idx := 10) awX4 rfl (by decide) wd_1_146 rfl (by decide +kernel)) (
  fm (z_inv (idx := 122) rfl (by decide +kernel) wd_2_64 wd_2_65 wd_2_66 wd_1_2 wd_2_67 (by decide +kernel) ⟨Nat.le_of_ble_eq_true rfl, Nat.le_of_ble_eq_true rfl⟩) (
  fm (z_aload_n (j := 0) (by decide +kernel) rfl) (
  fm (z_getf (idx := 16) awX4 rfl (by decide) wd_1_147 rfl (by decide +kernel)) (
  fm (z_iload_n (j := 2) (by decide +kernel) rfl) (
  fm (z_inv (idx := 119) rfl (by decide +kernel) wd_2_26 wd_2_27 wd_2_28 wd_1_2 wd_2_29 (by decide +kernel) ⟨Nat.le_of_ble_eq_true rfl, Nat.le_of_ble_eq_true rfl⟩) (
  fm (z_pop (by decide +kernel)) (
  fm (z_aload_n (j := 0) (by decide +kernel) rfl) (
  fm (z_getf (idx := 16) awX4 rfl (by decide) wd_1_147 rfl (by decide +kernel)) (
  fm (z_iload_n (j := 1) (by decide +kernel) rfl) (
  fm (z_inv (idx := 74) rfl (by decide +kernel) wd_1_204 wd_1_205 wd_1_206 wd_1_2 wd_1_207 (by decide +kernel) ⟨Nat.le_of_ble_eq_true rfl, Nat.le_of_ble_eq_true rfl⟩) (
  fm (z_istore (i := 4) (by decide +kernel) (by decide)) (
  fm (z_iload (i := 4) (by decide +kernel)) (
  fm (z_if_lt (off := 8) (by decide +kernel) (by decide)) (
  fm (z_iload (i := 4) (by decide +kernel)) (
  fm (z_goto (off := 8) (by decide +kernel) (by decide)) (
  fm (z_aload_n (j := 0) (by decide +kernel) rfl) (
  fm (z_iconst (n := 3) (by decide +kernel) (by decide)) (
  fm (z_inv (idx := 57) rfl (by decide +kernel) wd_1_184 wd_1_186 ws_0 wd_1_1 wd_1_187 (by decide +kernel) ⟨Nat.le_of_ble_eq_true rfl, Nat.le_of_ble_eq_true rfl⟩) (
  fm (z_iret rfl (by decide +kernel)) (fn)))))))))))))))))))))))))))))))))))
def kX4_thief : Cd := [(0, s_aload 0 1), (1, s_iload 1 2), (2, s_invS mX4_isPlace 1 5), (5, s_iload 2 6), (6, s_pushi 0 7), (7, s_pushi 96 9), (9, s_inv mX4_aheadFinding 4 4 12), (12, s_istore 3 13), (13, s_iload 3 14), (14, s_if (fun x => x = 0) 19 17), (17, s_iload 3 18), (18, s_iret), (19, s_aload 0 20), (20, s_getf 4 1 23), (23, s_aload 0 24), (24, s_getf 4 0 27), (27, s_inv mX2_become 2 1 30), (30, s_aload 0 31), (31, s_getf 4 1 34), (34, s_iload 2 35), (35, s_inv mX2_passHours 2 1 38), (38, s_pop 39), (39, s_aload 0 40), (40, s_getf 4 1 43), (43, s_iload 1 44), (44, s_inv mX2_stallAt 2 1 47), (47, s_istore 4 49), (49, s_iload 4 51), (51, s_if (fun x => x < 0) 67 54), (54, s_aload 0 55), (55, s_getf 4 1 58), (58, s_getf 2 4 61), (61, s_iload 4 63), (63, s_iald 64), (64, s_goto 68), (67, s_pushi 0 68), (68, s_iret)]
set_option maxRecDepth 20000 in
theorem zX4_thief : ∀ q ∈ kX4_thief, Snd RX4 cX4_thief 5 (some .int) (rmM mX4_thief) q.1 q.2 :=
  fm (z_aload_n (j := 0) (by decide +kernel) rfl) (
  fm (z_iload_n (j := 1) (by decide +kernel) rfl) (
  fm (z_invS (idx := 53) (by decide +kernel) wd_1_181 wd_1_182 wd_1_1 wd_1_183 (by decide +kernel) ⟨Nat.le_of_ble_eq_true rfl, Nat.le_of_ble_eq_true rfl⟩) (
  fm (z_iload_n (j := 2) (by decide +kernel) rfl) (
  fm (z_iconst (n := 0) (by decide +kernel) (by decide)) (
  fm (z_bipush (n := 96) (by decide +kernel) (by decide)) (
  fm (z_inv (idx := 115) rfl (by decide +kernel) wd_2_22 wd_2_24 ws_3 wd_1_1 wd_2_25 (by decide +kernel) ⟨Nat.le_of_ble_eq_true rfl, Nat.le_of_ble_eq_true rfl⟩) (
  fm (z_istore_n (j := 3) (by decide +kernel) rfl (by decide)) (
  fm (z_iload_n (j := 3) (by decide +kernel) rfl) (
  fm (z_if_eq (off := 5) (by decide +kernel) (by decide)) (
  fm (z_iload_n (j := 3) (by decide +kernel) rfl) (
  fm (z_iret rfl (by decide +kernel)) (
  fm (z_aload_n (j := 0) (by decide +kernel) rfl) (
  fm (z_getf (idx := 16) awX4 rfl (by decide) wd_1_147 rfl (by decide +kernel)) (
  fm (z_aload_n (j := 0) (by decide +kernel) rfl) (
  fm (z_getf (idx := 10) awX4 rfl (by decide) wd_1_146 rfl (by decide +kernel)) (
  fm (z_inv (idx := 122) rfl (by decide +kernel) wd_2_64 wd_2_65 wd_2_66 wd_1_2 wd_2_67 (by decide +kernel) ⟨Nat.le_of_ble_eq_true rfl, Nat.le_of_ble_eq_true rfl⟩) (
  fm (z_aload_n (j := 0) (by decide +kernel) rfl) (
  fm (z_getf (idx := 16) awX4 rfl (by decide) wd_1_147 rfl (by decide +kernel)) (
  fm (z_iload_n (j := 2) (by decide +kernel) rfl) (
  fm (z_inv (idx := 119) rfl (by decide +kernel) wd_2_26 wd_2_27 wd_2_28 wd_1_2 wd_2_29 (by decide +kernel) ⟨Nat.le_of_ble_eq_true rfl, Nat.le_of_ble_eq_true rfl⟩) (
  fm (z_pop (by decide +kernel)) (
  fm (z_aload_n (j := 0) (by decide +kernel) rfl) (
  fm (z_getf (idx := 16) awX4 rfl (by decide) wd_1_147 rfl (by decide +kernel)) (
  fm (z_iload_n (j := 1) (by decide +kernel) rfl) (
  fm (z_inv (idx := 74) rfl (by decide +kernel) wd_1_204 wd_1_205 wd_1_206 wd_1_2 wd_1_207 (by decide +kernel) ⟨Nat.le_of_ble_eq_true rfl, Nat.le_of_ble_eq_true rfl⟩) (
  fm (z_istore (i := 4) (by decide +kernel) (by decide)) (
  fm (z_iload (i := 4) (by decide +kernel)) (
  fm (z_if_lt (off := 16) (by decide +kernel) (by decide)) (
  fm (z_aload_n (j := 0) (by decide +kernel) rfl) (
  fm (z_getf (idx := 16) awX4 rfl (by decide) wd_1_147 rfl (by decide +kernel)) (
  fm (z_getf (idx := 93) awX2 rfl (by decide) wd_1_42 rfl (by decide +kernel)) (
  fm (z_iload (i := 4) (by decide +kernel)) (
  fm (z_iald (by decide +kernel)) (
  fm (z_goto (off := 4) (by decide +kernel) (by decide)) (
  fm (z_iconst (n := 0) (by decide +kernel) (by decide)) (
  fm (z_iret rfl (by decide +kernel)) (fn)))))))))))))))))))))))))))))))))))))
def kX4_throwAway : Cd := [(0, s_aload 0 1), (1, s_aload 0 2), (2, s_iload 1 3), (3, s_inv mX4_isStall 4 1 6), (6, s_iload 2 7), (7, s_pushi 1 8), (8, s_pushi 48 10), (10, s_inv mX4_aheadFinding 4 4 13), (13, s_istore 3 14), (14, s_iload 3 15), (15, s_if (fun x => x = 0) 20 18), (18, s_iload 3 19), (19, s_iret), (20, s_pushi 0 21), (21, s_istore 4 23), (23, s_pushi (-1) 24), (24, s_istore 5 26), (26, s_pushi 0 27), (27, s_istore 6 29), (29, s_iload 6 31), (31, s_aload 0 32), (32, s_getf 4 0 35), (35, s_getf 2 4 38), (38, s_iload 1 39), (39, s_iald 40), (40, s_icmp (fun x y => y < x) 112 43), (43, s_aload 0 44), (44, s_getf 4 1 47), (47, s_aload 0 48), (48, s_getf 4 0 51), (51, s_inv mX2_become 2 1 54), (54, s_aload 0 55), (55, s_getf 4 1 58), (58, s_getf 2 4 61), (61, s_iload 1 62), (62, s_dup2 63), (63, s_iald 64), (64, s_iload 6 66), (66, s_bin (fun x y => x - y) 67), (67, s_iast 68), (68, s_aload 0 69), (69, s_getf 4 1 72), (72, s_iload 2 73), (73, s_inv mX2_passHours 2 1 76), (76, s_pop 77), (77, s_aload 0 78), (78, s_getf 4 1 81), (81, s_getf 2 5 84), (84, s_iload 1 85), (85, s_iald 86), (86, s_iload 5 88), (88, s_icmp (fun x y => x ≤ y) 106 91), (91, s_aload 0 92), (92, s_getf 4 1 95), (95, s_getf 2 5 98), (98, s_iload 1 99), (99, s_iald 100), (100, s_istore 5 102), (102, s_iload 6 104), (104, s_istore 4 106), (106, s_iinc 6 1 109), (109, s_goto 29), (112, s_iload 4 114), (114, s_iret)]
set_option maxRecDepth 20000 in
theorem zX4_throwAway : ∀ q ∈ kX4_throwAway, Snd RX4 cX4_throwAway 7 (some .int) (rmM mX4_throwAway) q.1 q.2 :=
  fm (z_aload_n (j := 0) (by decide +kernel) rfl) (
  fm (z_aload_n (j := 0) (by decide +kernel) rfl) (
  fm (z_iload_n (j := 1) (by decide +kernel) rfl) (
  fm (z_inv (idx := 84) rfl (by decide +kernel) wd_1_216 wd_1_218 ws_1 wd_1_1 wd_1_219 (by decide +kernel) ⟨Nat.le_of_ble_eq_true rfl, Nat.le_of_ble_eq_true rfl⟩) (
  fm (z_iload_n (j := 2) (by decide +kernel) rfl) (
  fm (z_iconst (n := 1) (by decide +kernel) (by decide)) (
  fm (z_bipush (n := 48) (by decide +kernel) (by decide)) (
  fm (z_inv (idx := 115) rfl (by decide +kernel) wd_2_22 wd_2_24 ws_3 wd_1_1 wd_2_25 (by decide +kernel) ⟨Nat.le_of_ble_eq_true rfl, Nat.le_of_ble_eq_true rfl⟩) (
  fm (z_istore_n (j := 3) (by decide +kernel) rfl (by decide)) (
  fm (z_iload_n (j := 3) (by decide +kernel) rfl) (
  fm (z_if_eq (off := 5) (by decide +kernel) (by decide)) (
  fm (z_iload_n (j := 3) (by decide +kernel) rfl) (
  fm (z_iret rfl (by decide +kernel)) (
  fm (z_iconst (n := 0) (by decide +kernel) (by decide)) (
  fm (z_istore (i := 4) (by decide +kernel) (by decide)) (
  fm (z_iconst (n := (-1)) (by decide +kernel) (by decide)) (
  fm (z_istore (i := 5) (by decide +kernel) (by decide)) (
  fm (z_iconst (n := 0) (by decide +kernel) (by decide)) (
  fm (z_istore (i := 6) (by decide +kernel) (by decide)) (
  fm (z_iload (i := 6) (by decide +kernel)) (
  fm (z_aload_n (j := 0) (by decide +kernel) rfl) (
  fm (z_getf (idx := 10) awX4 rfl (by decide) wd_1_146 rfl (by decide +kernel)) (
  fm (z_getf (idx := 93) awX2 rfl (by decide) wd_1_42 rfl (by decide +kernel)) (
  fm (z_iload_n (j := 1) (by decide +kernel) rfl) (
  fm (z_iald (by decide +kernel)) (
  fm (z_icmp_gt (off := 72) (by decide +kernel) (by decide)) (
  fm (z_aload_n (j := 0) (by decide +kernel) rfl) (
  fm (z_getf (idx := 16) awX4 rfl (by decide) wd_1_147 rfl (by decide +kernel)) (
  fm (z_aload_n (j := 0) (by decide +kernel) rfl) (
  fm (z_getf (idx := 10) awX4 rfl (by decide) wd_1_146 rfl (by decide +kernel)) (
  fm (z_inv (idx := 122) rfl (by decide +kernel) wd_2_64 wd_2_65 wd_2_66 wd_1_2 wd_2_67 (by decide +kernel) ⟨Nat.le_of_ble_eq_true rfl, Nat.le_of_ble_eq_true rfl⟩) (
  fm (z_aload_n (j := 0) (by decide +kernel) rfl) (
  fm (z_getf (idx := 16) awX4 rfl (by decide) wd_1_147 rfl (by decide +kernel)) (
  fm (z_getf (idx := 93) awX2 rfl (by decide) wd_1_42 rfl (by decide +kernel)) (
  fm (z_iload_n (j := 1) (by decide +kernel) rfl) (
  fm (z_dup2 (by decide +kernel)) (
  fm (z_iald (by decide +kernel)) (
  fm (z_iload (i := 6) (by decide +kernel)) (
  fm (z_isub (by decide +kernel)) (
  fm (z_iast (by decide +kernel)) (
  fm (z_aload_n (j := 0) (by decide +kernel) rfl) (
  fm (z_getf (idx := 16) awX4 rfl (by decide) wd_1_147 rfl (by decide +kernel)) (
  fm (z_iload_n (j := 2) (by decide +kernel) rfl) (
  fm (z_inv (idx := 119) rfl (by decide +kernel) wd_2_26 wd_2_27 wd_2_28 wd_1_2 wd_2_29 (by decide +kernel) ⟨Nat.le_of_ble_eq_true rfl, Nat.le_of_ble_eq_true rfl⟩) (
  fm (z_pop (by decide +kernel)) (
  fm (z_aload_n (j := 0) (by decide +kernel) rfl) (
  fm (z_getf (idx := 16) awX4 rfl (by decide) wd_1_147 rfl (by decide +kernel)) (
  fm (z_getf (idx := 96) awX2 rfl (by decide) wd_1_45 rfl (by decide +kernel)) (
  fm (z_iload_n (j := 1) (by decide +kernel) rfl) (
  fm (z_iald (by decide +kernel)) (
  fm (z_iload (i := 5) (by decide +kernel)) (
  fm (z_icmp_le (off := 18) (by decide +kernel) (by decide)) (
  fm (z_aload_n (j := 0) (by decide +kernel) rfl) (
  fm (z_getf (idx := 16) awX4 rfl (by decide) wd_1_147 rfl (by decide +kernel)) (
  fm (z_getf (idx := 96) awX2 rfl (by decide) wd_1_45 rfl (by decide +kernel)) (
  fm (z_iload_n (j := 1) (by decide +kernel) rfl) (
  fm (z_iald (by decide +kernel)) (
  fm (z_istore (i := 5) (by decide +kernel) (by decide)) (
  fm (z_iload (i := 6) (by decide +kernel)) (
  fm (z_istore (i := 4) (by decide +kernel) (by decide)) (
  fm (z_iinc (n := 1) (by decide +kernel) (by decide) (by decide)) (
  fm (z_goto (off := (-80)) (by decide +kernel) (by decide)) (
  fm (z_iload (i := 4) (by decide +kernel)) (
  fm (z_iret rfl (by decide +kernel)) (fn))))))))))))))))))))))))))))))))))))))))))))))))))))))))))))))))
def kX4_tryOrder : Cd := [(0, s_aload 0 1), (1, s_getf 4 1 4), (4, s_aload 0 5), (5, s_getf 4 0 8), (8, s_inv mX2_become 2 1 11), (11, s_pushi 0 12), (12, s_istore 1 13), (13, s_iload 1 14), (14, s_aload 0 15), (15, s_getf 4 0 18), (18, s_getf 2 9 21), (21, s_icmp (fun x y => y ≤ x) 56 24), (24, s_aload 0 25), (25, s_getf 4 1 28), (28, s_getf 2 3 31), (31, s_iload 1 32), (32, s_aload 0 33), (33, s_getf 4 0 36), (36, s_getf 2 3 39), (39, s_aload 0 40), (40, s_getf 4 3 43), (43, s_getf 0 0 46), (46, s_iload 1 47), (47, s_iald 48), (48, s_iald 49), (49, s_iast 50), (50, s_iinc 1 1 53), (53, s_goto 13), (56, s_vret)]
set_option maxRecDepth 20000 in
theorem zX4_tryOrder : ∀ q ∈ kX4_tryOrder, Snd RX4 cX4_tryOrder 2 none (rmM mX4_tryOrder) q.1 q.2 :=
  fm (z_aload_n (j := 0) (by decide +kernel) rfl) (
  fm (z_getf (idx := 16) awX4 rfl (by decide) wd_1_147 rfl (by decide +kernel)) (
  fm (z_aload_n (j := 0) (by decide +kernel) rfl) (
  fm (z_getf (idx := 10) awX4 rfl (by decide) wd_1_146 rfl (by decide +kernel)) (
  fm (z_inv (idx := 122) rfl (by decide +kernel) wd_2_64 wd_2_65 wd_2_66 wd_1_2 wd_2_67 (by decide +kernel) ⟨Nat.le_of_ble_eq_true rfl, Nat.le_of_ble_eq_true rfl⟩) (
  fm (z_iconst (n := 0) (by decide +kernel) (by decide)) (
  fm (z_istore_n (j := 1) (by decide +kernel) rfl (by decide)) (
  fm (z_iload_n (j := 1) (by decide +kernel) rfl) (
  fm (z_aload_n (j := 0) (by decide +kernel) rfl) (
  fm (z_getf (idx := 10) awX4 rfl (by decide) wd_1_146 rfl (by decide +kernel)) (
  fm (z_getf (idx := 77) awX2 rfl (by decide) wd_1_54 rfl (by decide +kernel)) (
  fm (z_icmp_ge (off := 35) (by decide +kernel) (by decide)) (
  fm (z_aload_n (j := 0) (by decide +kernel) rfl) (
  fm (z_getf (idx := 16) awX4 rfl (by decide) wd_1_147 rfl (by decide +kernel)) (
  fm (z_getf (idx := 90) awX2 rfl (by decide) wd_1_40 rfl (by decide +kernel)) (
  fm (z_iload_n (j := 1) (by decide +kernel) rfl) (
  fm (z_aload_n (j := 0) (by decide +kernel) rfl) (
  fm (z_getf (idx := 10) awX4 rfl (by decide) wd_1_146 rfl (by decide +kernel)) (
  fm (z_getf (idx := 90) awX2 rfl (by decide) wd_1_40 rfl (by decide +kernel)) (
  fm (z_aload_n (j := 0) (by decide +kernel) rfl) (
  fm (z_getf (idx := 25) awX4 rfl (by decide) wd_1_149 rfl (by decide +kernel)) (
  fm (z_getf (idx := 162) awX0 rfl (by decide) wd_1_93 rfl (by decide +kernel)) (
  fm (z_iload_n (j := 1) (by decide +kernel) rfl) (
  fm (z_iald (by decide +kernel)) (
  fm (z_iald (by decide +kernel)) (
  fm (z_iast (by decide +kernel)) (
  fm (z_iinc (n := 1) (by decide +kernel) (by decide) (by decide)) (
  fm (z_goto (off := (-40)) (by decide +kernel) (by decide)) (
  fm (z_vret rfl (by decide +kernel)) (fn)))))))))))))))))))))))))))))
def kX4_undo : Cd := [(0, s_aload 0 1), (1, s_getf 4 9 4), (4, s_if (fun x => x = 0) 7 13), (7, s_aload 0 8), (8, s_pushi 3 9), (9, s_inv mX4_finding 4 1 12), (12, s_iret), (13, s_aload 0 14), (14, s_getf 4 0 17), (17, s_aload 0 18), (18, s_getf 4 2 21), (21, s_inv mX2_become 2 1 24), (24, s_aload 0 25), (25, s_getf 4 0 28), (28, s_getf 2 10 31), (31, s_iret)]
set_option maxRecDepth 20000 in
theorem zX4_undo : ∀ q ∈ kX4_undo, Snd RX4 cX4_undo 1 (some .int) (rmM mX4_undo) q.1 q.2 :=
  fm (z_aload_n (j := 0) (by decide +kernel) rfl) (
  fm (z_getf (idx := 257) awX4 rfl (by decide) wd_1_155 rfl (by decide +kernel)) (
  fm (z_if_ne (off := 9) (by decide +kernel) (by decide)) (
  fm (z_aload_n (j := 0) (by decide +kernel) rfl) (
  fm (z_iconst (n := 3) (by decide +kernel) (by decide)) (
  fm (z_inv (idx := 57) rfl (by decide +kernel) wd_1_184 wd_1_186 ws_0 wd_1_1 wd_1_187 (by decide +kernel) ⟨Nat.le_of_ble_eq_true rfl, Nat.le_of_ble_eq_true rfl⟩) (
  fm (z_iret rfl (by decide +kernel)) (
  fm (z_aload_n (j := 0) (by decide +kernel) rfl) (
  fm (z_getf (idx := 10) awX4 rfl (by decide) wd_1_146 rfl (by decide +kernel)) (
  fm (z_aload_n (j := 0) (by decide +kernel) rfl) (
  fm (z_getf (idx := 19) awX4 rfl (by decide) wd_1_148 rfl (by decide +kernel)) (
  fm (z_inv (idx := 122) rfl (by decide +kernel) wd_2_64 wd_2_65 wd_2_66 wd_1_2 wd_2_67 (by decide +kernel) ⟨Nat.le_of_ble_eq_true rfl, Nat.le_of_ble_eq_true rfl⟩) (
  fm (z_aload_n (j := 0) (by decide +kernel) rfl) (
  fm (z_getf (idx := 10) awX4 rfl (by decide) wd_1_146 rfl (by decide +kernel)) (
  fm (z_getf (idx := 261) awX2 rfl (by decide) wd_1_57 rfl (by decide +kernel)) (
  fm (z_iret rfl (by decide +kernel)) (fn))))))))))))))))
def kX4_visits : Cd := [(0, s_iload 1 1), (1, s_invS mX4_isPlace 1 4), (4, s_if (fun x => x = 0) 17 7), (7, s_iload 2 8), (8, s_if (fun x => x < 0) 17 11), (11, s_iload 2 12), (12, s_pushi 20 14), (14, s_icmp (fun x y => x ≤ y) 23 17), (17, s_aload 0 18), (18, s_pushi 0 19), (19, s_inv mX4_finding 4 1 22), (22, s_iret), (23, s_aload 0 24), (24, s_getf 4 0 27), (27, s_getf 2 0 30), (30, s_iload 1 31), (31, s_iald 32), (32, s_istore 3 33), (33, s_aload 0 34), (34, s_getf 4 0 37), (37, s_getf 2 0 40), (40, s_iload 1 41), (41, s_iload 2 42), (42, s_iast 43), (43, s_iload 3 44), (44, s_iret)]
set_option maxRecDepth 20000 in
theorem zX4_visits : ∀ q ∈ kX4_visits, Snd RX4 cX4_visits 4 (some .int) (rmM mX4_visits) q.1 q.2 :=
  fm (z_iload_n (j := 1) (by decide +kernel) rfl) (
  fm (z_invS (idx := 53) (by decide +kernel) wd_1_181 wd_1_182 wd_1_1 wd_1_183 (by decide +kernel) ⟨Nat.le_of_ble_eq_true rfl, Nat.le_of_ble_eq_true rfl⟩) (
  fm (z_if_eq (off := 13) (by decide +kernel) (by decide)) (
  fm (z_iload_n (j := 2) (by decide +kernel) rfl) (
  fm (z_if_lt (off := 9) (by decide +kernel) (by decide)) (
  fm (z_iload_n (j := 2) (by decide +kernel) rfl) (
  fm (z_bipush (n := 20) (by decide +kernel) (by decide)) (
  fm (z_icmp_le (off := 9) (by decide +kernel) (by decide)) (
  fm (z_aload_n (j := 0) (by decide +kernel) rfl) (
  fm (z_iconst (n := 0) (by decide +kernel) (by decide)) (
  fm (z_inv (idx := 57) rfl (by decide +kernel) wd_1_184 wd_1_186 ws_0 wd_1_1 wd_1_187 (by decide +kernel) ⟨Nat.le_of_ble_eq_true rfl, Nat.le_of_ble_eq_true rfl⟩) (
  fm (z_iret rfl (by decide +kernel)) (
  fm (z_aload_n (j := 0) (by decide +kernel) rfl) (
  fm (z_getf (idx := 10) awX4 rfl (by decide) wd_1_146 rfl (by decide +kernel)) (
  fm (z_getf (idx := 61) awX2 rfl (by decide) wd_1_32 rfl (by decide +kernel)) (
  fm (z_iload_n (j := 1) (by decide +kernel) rfl) (
  fm (z_iald (by decide +kernel)) (
  fm (z_istore_n (j := 3) (by decide +kernel) rfl (by decide)) (
  fm (z_aload_n (j := 0) (by decide +kernel) rfl) (
  fm (z_getf (idx := 10) awX4 rfl (by decide) wd_1_146 rfl (by decide +kernel)) (
  fm (z_getf (idx := 61) awX2 rfl (by decide) wd_1_32 rfl (by decide +kernel)) (
  fm (z_iload_n (j := 1) (by decide +kernel) rfl) (
  fm (z_iload_n (j := 2) (by decide +kernel) rfl) (
  fm (z_iast (by decide +kernel)) (
  fm (z_iload_n (j := 3) (by decide +kernel) rfl) (
  fm (z_iret rfl (by decide +kernel)) (fn))))))))))))))))))))))))))
def kX4_when : Cd := [(0, s_aload 0 1), (1, s_aload 0 2), (2, s_iload 1 3), (3, s_inv mX4_isStall 4 1 6), (6, s_if (fun x => x = 0) 20 9), (9, s_iload 2 10), (10, s_invS mX4_isPlace 1 13), (13, s_if (fun x => x = 0) 20 16), (16, s_pushi 1 17), (17, s_goto 21), (20, s_pushi 0 21), (21, s_pushi 96 23), (23, s_pushi 0 24), (24, s_pushi 96 26), (26, s_inv mX4_aheadFinding 4 4 29), (29, s_istore 3 30), (30, s_iload 3 31), (31, s_if (fun x => x = 0) 36 34), (34, s_iload 3 35), (35, s_iret), (36, s_aload 0 37), (37, s_getf 4 1 40), (40, s_aload 0 41), (41, s_getf 4 0 44), (44, s_inv mX2_become 2 1 47), (47, s_pushi 0 48), (48, s_istore 4 50), (50, s_iload 4 52), (52, s_pushi 96 54), (54, s_icmp (fun x y => y < x) 87 57), (57, s_aload 0 58), (58, s_getf 4 1 61), (61, s_getf 2 3 64), (64, s_iload 1 65), (65, s_iald 66), (66, s_iload 2 67), (67, s_icmp (fun x y => x = y) 70 73), (70, s_iload 4 72), (72, s_iret), (73, s_aload 0 74), (74, s_getf 4 1 77), (77, s_inv mX2_passHour 2 0 80), (80, s_pop 81), (81, s_iinc 4 1 84), (84, s_goto 50), (87, s_aload 0 88), (88, s_pushi 3 89), (89, s_inv mX4_finding 4 1 92), (92, s_iret)]
set_option maxRecDepth 20000 in
theorem zX4_when : ∀ q ∈ kX4_when, Snd RX4 cX4_when 5 (some .int) (rmM mX4_when) q.1 q.2 :=
  fm (z_aload_n (j := 0) (by decide +kernel) rfl) (
  fm (z_aload_n (j := 0) (by decide +kernel) rfl) (
  fm (z_iload_n (j := 1) (by decide +kernel) rfl) (
  fm (z_inv (idx := 84) rfl (by decide +kernel) wd_1_216 wd_1_218 ws_1 wd_1_1 wd_1_219 (by decide +kernel) ⟨Nat.le_of_ble_eq_true rfl, Nat.le_of_ble_eq_true rfl⟩) (
  fm (z_if_eq (off := 14) (by decide +kernel) (by decide)) (
  fm (z_iload_n (j := 2) (by decide +kernel) rfl) (
  fm (z_invS (idx := 53) (by decide +kernel) wd_1_181 wd_1_182 wd_1_1 wd_1_183 (by decide +kernel) ⟨Nat.le_of_ble_eq_true rfl, Nat.le_of_ble_eq_true rfl⟩) (
  fm (z_if_eq (off := 7) (by decide +kernel) (by decide)) (
  fm (z_iconst (n := 1) (by decide +kernel) (by decide)) (
  fm (z_goto (off := 4) (by decide +kernel) (by decide)) (
  fm (z_iconst (n := 0) (by decide +kernel) (by decide)) (
  fm (z_bipush (n := 96) (by decide +kernel) (by decide)) (
  fm (z_iconst (n := 0) (by decide +kernel) (by decide)) (
  fm (z_bipush (n := 96) (by decide +kernel) (by decide)) (
  fm (z_inv (idx := 115) rfl (by decide +kernel) wd_2_22 wd_2_24 ws_3 wd_1_1 wd_2_25 (by decide +kernel) ⟨Nat.le_of_ble_eq_true rfl, Nat.le_of_ble_eq_true rfl⟩) (
  fm (z_istore_n (j := 3) (by decide +kernel) rfl (by decide)) (
  fm (z_iload_n (j := 3) (by decide +kernel) rfl) (
  fm (z_if_eq (off := 5) (by decide +kernel) (by decide)) (
  fm (z_iload_n (j := 3) (by decide +kernel) rfl) (
  fm (z_iret rfl (by decide +kernel)) (
  fm (z_aload_n (j := 0) (by decide +kernel) rfl) (
  fm (z_getf (idx := 16) awX4 rfl (by decide) wd_1_147 rfl (by decide +kernel)) (
  fm (z_aload_n (j := 0) (by decide +kernel) rfl) (
  fm (z_getf (idx := 10) awX4 rfl (by decide) wd_1_146 rfl (by decide +kernel)) (
  fm (z_inv (idx := 122) rfl (by decide +kernel) wd_2_64 wd_2_65 wd_2_66 wd_1_2 wd_2_67 (by decide +kernel) ⟨Nat.le_of_ble_eq_true rfl, Nat.le_of_ble_eq_true rfl⟩) (
  fm (z_iconst (n := 0) (by decide +kernel) (by decide)) (
  fm (z_istore (i := 4) (by decide +kernel) (by decide)) (
  fm (z_iload (i := 4) (by decide +kernel)) (
  fm (z_bipush (n := 96) (by decide +kernel) (by decide)) (
  fm (z_icmp_gt (off := 33) (by decide +kernel) (by decide)) (
  fm (z_aload_n (j := 0) (by decide +kernel) rfl) (
  fm (z_getf (idx := 16) awX4 rfl (by decide) wd_1_147 rfl (by decide +kernel)) (
  fm (z_getf (idx := 90) awX2 rfl (by decide) wd_1_40 rfl (by decide +kernel)) (
  fm (z_iload_n (j := 1) (by decide +kernel) rfl) (
  fm (z_iald (by decide +kernel)) (
  fm (z_iload_n (j := 2) (by decide +kernel) rfl) (
  fm (z_icmp_ne (off := 6) (by decide +kernel) (by decide)) (
  fm (z_iload (i := 4) (by decide +kernel)) (
  fm (z_iret rfl (by decide +kernel)) (
  fm (z_aload_n (j := 0) (by decide +kernel) rfl) (
  fm (z_getf (idx := 16) awX4 rfl (by decide) wd_1_147 rfl (by decide +kernel)) (
  fm (z_inv (idx := 142) rfl (by decide +kernel) wd_2_93 wd_2_31 wd_2_32 wd_1_2 wd_2_33 (by decide +kernel) ⟨Nat.le_of_ble_eq_true rfl, Nat.le_of_ble_eq_true rfl⟩) (
  fm (z_pop (by decide +kernel)) (
  fm (z_iinc (n := 1) (by decide +kernel) (by decide) (by decide)) (
  fm (z_goto (off := (-34)) (by decide +kernel) (by decide)) (
  fm (z_aload_n (j := 0) (by decide +kernel) rfl) (
  fm (z_iconst (n := 3) (by decide +kernel) (by decide)) (
  fm (z_inv (idx := 57) rfl (by decide +kernel) wd_1_184 wd_1_186 ws_0 wd_1_1 wd_1_187 (by decide +kernel) ⟨Nat.le_of_ble_eq_true rfl, Nat.le_of_ble_eq_true rfl⟩) (
  fm (z_iret rfl (by decide +kernel)) (fn)))))))))))))))))))))))))))))))))))))))))))))))))
def kX4_wipe : Cd := [(0, s_aload 0 1), (1, s_getf 4 5 4), (4, s_getf 3 1 7), (7, s_istore 1 8), (8, s_aload 0 9), (9, s_getf 4 5 12), (12, s_pushi 0 13), (13, s_putf .int 3 1 16), (16, s_iload 1 17), (17, s_iret)]
set_option maxRecDepth 20000 in
theorem zX4_wipe : ∀ q ∈ kX4_wipe, Snd RX4 cX4_wipe 2 (some .int) (rmM mX4_wipe) q.1 q.2 :=
  fm (z_aload_n (j := 0) (by decide +kernel) rfl) (
  fm (z_getf (idx := 35) awX4 rfl (by decide) wd_1_151 rfl (by decide +kernel)) (
  fm (z_getf (idx := 204) awX3 rfl (by decide) wd_1_108 rfl (by decide +kernel)) (
  fm (z_istore_n (j := 1) (by decide +kernel) rfl (by decide)) (
  fm (z_aload_n (j := 0) (by decide +kernel) rfl) (
  fm (z_getf (idx := 35) awX4 rfl (by decide) wd_1_151 rfl (by decide +kernel)) (
  fm (z_iconst (n := 0) (by decide +kernel) (by decide)) (
  fm (z_putf (idx := 204) tyX3 tyX3_ok nmX3 awX3 rfl (by decide) wd_1_108 rfl rfl (by decide +kernel) (by decide +kernel)) (
  fm (z_iload_n (j := 1) (by decide +kernel) rfl) (
  fm (z_iret rfl (by decide +kernel)) (fn))))))))))
def kX4_wishes : Cd := [(0, s_aload 0 1), (1, s_aload 0 2), (2, s_iload 1 3), (3, s_inv mX4_isStall 4 1 6), (6, s_iload 2 7), (7, s_pushi 1 8), (8, s_pushi 48 10), (10, s_inv mX4_aheadFinding 4 4 13), (13, s_istore 3 14), (14, s_iload 3 15), (15, s_if (fun x => x = 0) 20 18), (18, s_iload 3 19), (19, s_iret), (20, s_aload 0 21), (21, s_iload 1 22), (22, s_iload 1 23), (23, s_iload 2 24), (24, s_inv mX4_swapAhead 4 3 27), (27, s_iload 1 28), (28, s_istore 4 30), (30, s_aload 0 31), (31, s_getf 4 1 34), (34, s_getf 2 5 37), (37, s_iload 1 38), (38, s_iald 39), (39, s_istore 5 41), (41, s_pushi 0 42), (42, s_istore 6 44), (44, s_iload 6 46), (46, s_aload 0 47), (47, s_getf 4 0 50), (50, s_getf 2 9 53), (53, s_icmp (fun x y => y ≤ x) 99 56), (56, s_aload 0 57), (57, s_iload 1 58), (58, s_iload 6 60), (60, s_iload 2 61), (61, s_inv mX4_swapAhead 4 3 64), (64, s_aload 0 65), (65, s_getf 4 1 68), (68, s_getf 2 5 71), (71, s_iload 1 72), (72, s_iald 73), (73, s_iload 5 75), (75, s_icmp (fun x y => x ≤ y) 93 78), (78, s_aload 0 79), (79, s_getf 4 1 82), (82, s_getf 2 5 85), (85, s_iload 1 86), (86, s_iald 87), (87, s_istore 5 89), (89, s_iload 6 91), (91, s_istore 4 93), (93, s_iinc 6 1 96), (96, s_goto 44), (99, s_iload 4 101), (101, s_iret)]
set_option maxRecDepth 20000 in
theorem zX4_wishes : ∀ q ∈ kX4_wishes, Snd RX4 cX4_wishes 7 (some .int) (rmM mX4_wishes) q.1 q.2 :=
  fm (z_aload_n (j := 0) (by decide +kernel) rfl) (
  fm (z_aload_n (j := 0) (by decide +kernel) rfl) (
  fm (z_iload_n (j := 1) (by decide +kernel) rfl) (
  fm (z_inv (idx := 84) rfl (by decide +kernel) wd_1_216 wd_1_218 ws_1 wd_1_1 wd_1_219 (by decide +kernel) ⟨Nat.le_of_ble_eq_true rfl, Nat.le_of_ble_eq_true rfl⟩) (
  fm (z_iload_n (j := 2) (by decide +kernel) rfl) (
  fm (z_iconst (n := 1) (by decide +kernel) (by decide)) (
  fm (z_bipush (n := 48) (by decide +kernel) (by decide)) (
  fm (z_inv (idx := 115) rfl (by decide +kernel) wd_2_22 wd_2_24 ws_3 wd_1_1 wd_2_25 (by decide +kernel) ⟨Nat.le_of_ble_eq_true rfl, Nat.le_of_ble_eq_true rfl⟩) (
  fm (z_istore_n (j := 3) (by decide +kernel) rfl (by decide)) (
  fm (z_iload_n (j := 3) (by decide +kernel) rfl) (
  fm (z_if_eq (off := 5) (by decide +kernel) (by decide)) (
  fm (z_iload_n (j := 3) (by decide +kernel) rfl) (
  fm (z_iret rfl (by decide +kernel)) (
  fm (z_aload_n (j := 0) (by decide +kernel) rfl) (
  fm (z_iload_n (j := 1) (by decide +kernel) rfl) (
  fm (z_iload_n (j := 1) (by decide +kernel) rfl) (
  fm (z_iload_n (j := 2) (by decide +kernel) rfl) (
  fm (z_inv (idx := 174) rfl (by decide +kernel) wd_2_165 wd_2_167 ws_9 wd_1_1 wd_2_168 (by decide +kernel) ⟨Nat.le_of_ble_eq_true rfl, Nat.le_of_ble_eq_true rfl⟩) (
  fm (z_iload_n (j := 1) (by decide +kernel) rfl) (
  fm (z_istore (i := 4) (by decide +kernel) (by decide)) (
  fm (z_aload_n (j := 0) (by decide +kernel) rfl) (
  fm (z_getf (idx := 16) awX4 rfl (by decide) wd_1_147 rfl (by decide +kernel)) (
  fm (z_getf (idx := 96) awX2 rfl (by decide) wd_1_45 rfl (by decide +kernel)) (
  fm (z_iload_n (j := 1) (by decide +kernel) rfl) (
  fm (z_iald (by decide +kernel)) (
  fm (z_istore (i := 5) (by decide +kernel) (by decide)) (
  fm (z_iconst (n := 0) (by decide +kernel) (by decide)) (
  fm (z_istore (i := 6) (by decide +kernel) (by decide)) (
  fm (z_iload (i := 6) (by decide +kernel)) (
  fm (z_aload_n (j := 0) (by decide +kernel) rfl) (
  fm (z_getf (idx := 10) awX4 rfl (by decide) wd_1_146 rfl (by decide +kernel)) (
  fm (z_getf (idx := 77) awX2 rfl (by decide) wd_1_54 rfl (by decide +kernel)) (
  fm (z_icmp_ge (off := 46) (by decide +kernel) (by decide)) (
  fm (z_aload_n (j := 0) (by decide +kernel) rfl) (
  fm (z_iload_n (j := 1) (by decide +kernel) rfl) (
  fm (z_iload (i := 6) (by decide +kernel)) (
  fm (z_iload_n (j := 2) (by decide +kernel) rfl) (
  fm (z_inv (idx := 174) rfl (by decide +kernel) wd_2_165 wd_2_167 ws_9 wd_1_1 wd_2_168 (by decide +kernel) ⟨Nat.le_of_ble_eq_true rfl, Nat.le_of_ble_eq_true rfl⟩) (
  fm (z_aload_n (j := 0) (by decide +kernel) rfl) (
  fm (z_getf (idx := 16) awX4 rfl (by decide) wd_1_147 rfl (by decide +kernel)) (
  fm (z_getf (idx := 96) awX2 rfl (by decide) wd_1_45 rfl (by decide +kernel)) (
  fm (z_iload_n (j := 1) (by decide +kernel) rfl) (
  fm (z_iald (by decide +kernel)) (
  fm (z_iload (i := 5) (by decide +kernel)) (
  fm (z_icmp_le (off := 18) (by decide +kernel) (by decide)) (
  fm (z_aload_n (j := 0) (by decide +kernel) rfl) (
  fm (z_getf (idx := 16) awX4 rfl (by decide) wd_1_147 rfl (by decide +kernel)) (
  fm (z_getf (idx := 96) awX2 rfl (by decide) wd_1_45 rfl (by decide +kernel)) (
  fm (z_iload_n (j := 1) (by decide +kernel) rfl) (
  fm (z_iald (by decide +kernel)) (
  fm (z_istore (i := 5) (by decide +kernel) (by decide)) (
  fm (z_iload (i := 6) (by decide +kernel)) (
  fm (z_istore (i := 4) (by decide +kernel) (by decide)) (
  fm (z_iinc (n := 1) (by decide +kernel) (by decide) (by decide)) (
  fm (z_goto (off := (-52)) (by decide +kernel) (by decide)) (
  fm (z_iload (i := 4) (by decide +kernel)) (
  fm (z_iret rfl (by decide +kernel)) (fn)))))))))))))))))))))))))))))))))))))))))))))))))))))))))
def kX4_wordsAreSo : Cd := [(0, s_pushi 0 1), (1, s_istore 3 2), (2, s_iload 3 3), (3, s_iload 2 4), (4, s_icmp (fun x y => y < x) 96 7), (7, s_pushi 0 8), (8, s_istore 4 10), (10, s_iload 4 12), (12, s_pushi 3 13), (13, s_bin (fun x y => x + y) 14), (14, s_aload 1 15), (15, s_getf 1 2 18), (18, s_icmp (fun x y => y < x) 82 21), (21, s_aload 1 22), (22, s_getf 1 0 25), (25, s_iload 4 27), (27, s_iald 28), (28, s_istore 5 30), (30, s_aload 1 31), (31, s_getf 1 0 34), (34, s_iload 4 36), (36, s_pushi 2 37), (37, s_bin (fun x y => x + y) 38), (38, s_iald 39), (39, s_iload 3 40), (40, s_icmp (fun x y => x = y) 43 76), (43, s_aload 0 44), (44, s_iload 5 46), (46, s_inv mX4_isStall 4 1 49), (49, s_if (fun x => x = 0) 76 52), (52, s_aload 0 53), (53, s_getf 4 1 56), (56, s_getf 2 3 59), (59, s_iload 5 61), (61, s_iald 62), (62, s_aload 1 63), (63, s_getf 1 0 66), (66, s_iload 4 68), (68, s_pushi 1 69), (69, s_bin (fun x y => x + y) 70), (70, s_iald 71), (71, s_icmp (fun x y => x = y) 76 74), (74, s_pushi 0 75), (75, s_zret), (76, s_iinc 4 3 79), (79, s_goto 10), (82, s_aload 0 83), (83, s_getf 4 1 86), (86, s_inv mX2_passHour 2 0 89), (89, s_pop 90), (90, s_iinc 3 1 93), (93, s_goto 2), (96, s_pushi 1 97), (97, s_zret)]
set_option maxRecDepth 20000 in
theorem zX4_wordsAreSo : ∀ q ∈ kX4_wordsAreSo, Snd RX4 cX4_wordsAreSo 6 (some .boolean) (rmM mX4_wordsAreSo) q.1 q.2 :=
  fm (z_iconst (n := 0) (by decide +kernel) (by decide)) (
  fm (z_istore_n (j := 3) (by decide +kernel) rfl (by decide)) (
  fm (z_iload_n (j := 3) (by decide +kernel) rfl) (
  fm (z_iload_n (j := 2) (by decide +kernel) rfl) (
  fm (z_icmp_gt (off := 92) (by decide +kernel) (by decide)) (
  fm (z_iconst (n := 0) (by decide +kernel) (by decide)) (
  fm (z_istore (i := 4) (by decide +kernel) (by decide)) (
  fm (z_iload (i := 4) (by decide +kernel)) (
  fm (z_iconst (n := 3) (by decide +kernel) (by decide)) (
  fm (z_iadd (by decide +kernel)) (
  fm (z_aload_n (j := 1) (by decide +kernel) rfl) (
  fm (z_getf (idx := 229) awX1 rfl (by decide) wd_1_138 rfl (by decide +kernel)) (
  fm (z_icmp_gt (off := 64) (by decide +kernel) (by decide)) (
  fm (z_aload_n (j := 1) (by decide +kernel) rfl) (
  fm (z_getf (idx := 241) awX1 rfl (by decide) wd_1_134 rfl (by decide +kernel)) (
  fm (z_iload (i := 4) (by decide +kernel)) (
  fm (z_iald (by decide +kernel)) (
  fm (z_istore (i := 5) (by decide +kernel) (by decide)) (
  fm (z_aload_n (j := 1) (by decide +kernel) rfl) (
  fm (z_getf (idx := 241) awX1 rfl (by decide) wd_1_134 rfl (by decide +kernel)) (
  fm (z_iload (i := 4) (by decide +kernel)) (
  fm (z_iconst (n := 2) (by decide +kernel) (by decide)) (
  fm (z_iadd (by decide +kernel)) (
  fm (z_iald (by decide +kernel)) (
  fm (z_iload_n (j := 3) (by decide +kernel) rfl) (
  fm (z_icmp_ne (off := 36) (by decide +kernel) (by decide)) (
  fm (z_aload_n (j := 0) (by decide +kernel) rfl) (
  fm (z_iload (i := 5) (by decide +kernel)) (
  fm (z_inv (idx := 84) rfl (by decide +kernel) wd_1_216 wd_1_218 ws_1 wd_1_1 wd_1_219 (by decide +kernel) ⟨Nat.le_of_ble_eq_true rfl, Nat.le_of_ble_eq_true rfl⟩) (
  fm (z_if_eq (off := 27) (by decide +kernel) (by decide)) (
  fm (z_aload_n (j := 0) (by decide +kernel) rfl) (
  fm (z_getf (idx := 16) awX4 rfl (by decide) wd_1_147 rfl (by decide +kernel)) (
  fm (z_getf (idx := 90) awX2 rfl (by decide) wd_1_40 rfl (by decide +kernel)) (
  fm (z_iload (i := 5) (by decide +kernel)) (
  fm (z_iald (by decide +kernel)) (
  fm (z_aload_n (j := 1) (by decide +kernel) rfl) (
  fm (z_getf (idx := 241) awX1 rfl (by decide) wd_1_134 rfl (by decide +kernel)) (
  fm (z_iload (i := 4) (by decide +kernel)) (
  fm (z_iconst (n := 1) (by decide +kernel) (by decide)) (
  fm (z_iadd (by decide +kernel)) (
  fm (z_iald (by decide +kernel)) (
  fm (z_icmp_eq (off := 5) (by decide +kernel) (by decide)) (
  fm (z_iconst (n := 0) (by decide +kernel) (by decide)) (
  fm (z_zret rfl (by decide +kernel)) (
  fm (z_iinc (n := 3) (by decide +kernel) (by decide) (by decide)) (
  fm (z_goto (off := (-69)) (by decide +kernel) (by decide)) (
  fm (z_aload_n (j := 0) (by decide +kernel) rfl) (
  fm (z_getf (idx := 16) awX4 rfl (by decide) wd_1_147 rfl (by decide +kernel)) (
  fm (z_inv (idx := 142) rfl (by decide +kernel) wd_2_93 wd_2_31 wd_2_32 wd_1_2 wd_2_33 (by decide +kernel) ⟨Nat.le_of_ble_eq_true rfl, Nat.le_of_ble_eq_true rfl⟩) (
  fm (z_pop (by decide +kernel)) (
  fm (z_iinc (n := 1) (by decide +kernel) (by decide) (by decide)) (
  fm (z_goto (off := (-91)) (by decide +kernel) (by decide)) (
  fm (z_iconst (n := 1) (by decide +kernel) (by decide)) (
  fm (z_zret rfl (by decide +kernel)) (fn))))))))))))))))))))))))))))))))))))))))))))))))))))))
def kX4_worth : Cd := [(0, s_aload 0 1), (1, s_aload 0 2), (2, s_iload 1 3), (3, s_inv mX4_isStall 4 1 6), (6, s_if (fun x => x = 0) 20 9), (9, s_iload 2 10), (10, s_invS mX4_isPlace 1 13), (13, s_if (fun x => x = 0) 20 16), (16, s_pushi 1 17), (17, s_goto 21), (20, s_pushi 0 21), (21, s_iload 3 22), (22, s_pushi 1 23), (23, s_pushi 48 25), (25, s_inv mX4_aheadFinding 4 4 28), (28, s_istore 4 30), (30, s_iload 4 32), (32, s_if (fun x => x = 0) 38 35), (35, s_iload 4 37), (37, s_iret), (38, s_aload 0 39), (39, s_iload 1 40), (40, s_aload 0 41), (41, s_getf 4 0 44), (44, s_getf 2 3 47), (47, s_iload 1 48), (48, s_iald 49), (49, s_iload 3 50), (50, s_inv mX4_coinFrom 4 3 53), (53, s_istore 5 55), (55, s_aload 0 56), (56, s_iload 1 57), (57, s_iload 2 58), (58, s_iload 3 59), (59, s_inv mX4_coinFrom 4 3 62), (62, s_iload 5 64), (64, s_bin (fun x y => x - y) 65), (65, s_iret)]
set_option maxRecDepth 20000 in
theorem zX4_worth : ∀ q ∈ kX4_worth, Snd RX4 cX4_worth 6 (some .int) (rmM mX4_worth) q.1 q.2 :=
  fm (z_aload_n (j := 0) (by decide +kernel) rfl) (
  fm (z_aload_n (j := 0) (by decide +kernel) rfl) (
  fm (z_iload_n (j := 1) (by decide +kernel) rfl) (
  fm (z_inv (idx := 84) rfl (by decide +kernel) wd_1_216 wd_1_218 ws_1 wd_1_1 wd_1_219 (by decide +kernel) ⟨Nat.le_of_ble_eq_true rfl, Nat.le_of_ble_eq_true rfl⟩) (
  fm (z_if_eq (off := 14) (by decide +kernel) (by decide)) (
  fm (z_iload_n (j := 2) (by decide +kernel) rfl) (
  fm (z_invS (idx := 53) (by decide +kernel) wd_1_181 wd_1_182 wd_1_1 wd_1_183 (by decide +kernel) ⟨Nat.le_of_ble_eq_true rfl, Nat.le_of_ble_eq_true rfl⟩) (
  fm (z_if_eq (off := 7) (by decide +kernel) (by decide)) (
  fm (z_iconst (n := 1) (by decide +kernel) (by decide)) (
  fm (z_goto (off := 4) (by decide +kernel) (by decide)) (
  fm (z_iconst (n := 0) (by decide +kernel) (by decide)) (
  fm (z_iload_n (j := 3) (by decide +kernel) rfl) (
  fm (z_iconst (n := 1) (by decide +kernel) (by decide)) (
  fm (z_bipush (n := 48) (by decide +kernel) (by decide)) (
  fm (z_inv (idx := 115) rfl (by decide +kernel) wd_2_22 wd_2_24 ws_3 wd_1_1 wd_2_25 (by decide +kernel) ⟨Nat.le_of_ble_eq_true rfl, Nat.le_of_ble_eq_true rfl⟩) (
  fm (z_istore (i := 4) (by decide +kernel) (by decide)) (
  fm (z_iload (i := 4) (by decide +kernel)) (
  fm (z_if_eq (off := 6) (by decide +kernel) (by decide)) (
  fm (z_iload (i := 4) (by decide +kernel)) (
  fm (z_iret rfl (by decide +kernel)) (
  fm (z_aload_n (j := 0) (by decide +kernel) rfl) (
  fm (z_iload_n (j := 1) (by decide +kernel) rfl) (
  fm (z_aload_n (j := 0) (by decide +kernel) rfl) (
  fm (z_getf (idx := 10) awX4 rfl (by decide) wd_1_146 rfl (by decide +kernel)) (
  fm (z_getf (idx := 90) awX2 rfl (by decide) wd_1_40 rfl (by decide +kernel)) (
  fm (z_iload_n (j := 1) (by decide +kernel) rfl) (
  fm (z_iald (by decide +kernel)) (
  fm (z_iload_n (j := 3) (by decide +kernel) rfl) (
  fm (z_inv (idx := 195) rfl (by decide +kernel) wd_2_214 wd_2_216 ws_12 wd_1_1 wd_2_217 (by decide +kernel) ⟨Nat.le_of_ble_eq_true rfl, Nat.le_of_ble_eq_true rfl⟩) (
  fm (z_istore (i := 5) (by decide +kernel) (by decide)) (
  fm (z_aload_n (j := 0) (by decide +kernel) rfl) (
  fm (z_iload_n (j := 1) (by decide +kernel) rfl) (
  fm (z_iload_n (j := 2) (by decide +kernel) rfl) (
  fm (z_iload_n (j := 3) (by decide +kernel) rfl) (
  fm (z_inv (idx := 195) rfl (by decide +kernel) wd_2_214 wd_2_216 ws_12 wd_1_1 wd_2_217 (by decide +kernel) ⟨Nat.le_of_ble_eq_true rfl, Nat.le_of_ble_eq_true rfl⟩) (
  fm (z_iload (i := 5) (by decide +kernel)) (
  fm (z_isub (by decide +kernel)) (
  fm (z_iret rfl (by decide +kernel)) (fn))))))))))))))))))))))))))))))))))))))
def kX4_write : Cd := [(0, s_aload 0 1), (1, s_iload 1 2), (2, s_inv mX4_sheetFinding 4 1 5), (5, s_istore 4 7), (7, s_iload 4 9), (9, s_if (fun x => x = 0) 15 12), (12, s_iload 4 14), (14, s_iret), (15, s_iload 2 16), (16, s_if (fun x => x < 0) 32 19), (19, s_iload 2 20), (20, s_aload 0 21), (21, s_getf 4 6 24), (24, s_iload 1 25), (25, s_aald 26), (26, s_getf 1 2 29), (29, s_icmp (fun x y => x < y) 38 32), (32, s_aload 0 33), (33, s_pushi 0 34), (34, s_inv mX4_finding 4 1 37), (37, s_iret), (38, s_aload 0 39), (39, s_getf 4 6 42), (42, s_iload 1 43), (43, s_aald 44), (44, s_iload 2 45), (45, s_iload 3 46), (46, s_inv mX1_put 1 2 49), (49, s_pushi 1 50), (50, s_iret)]
set_option maxRecDepth 20000 in
theorem zX4_write : ∀ q ∈ kX4_write, Snd RX4 cX4_write 5 (some .int) (rmM mX4_write) q.1 q.2 :=
  fm (z_aload_n (j := 0) (by decide +kernel) rfl) (
  fm (z_iload_n (j := 1) (by decide +kernel) rfl) (
  fm (z_inv (idx := 230) rfl (by decide +kernel) wd_3_174 wd_3_176 ws_25 wd_1_1 wd_3_177 (by decide +kernel) ⟨Nat.le_of_ble_eq_true rfl, Nat.le_of_ble_eq_true rfl⟩) (
  fm (z_istore (i := 4) (by decide +kernel) (by decide)) (
  fm (z_iload (i := 4) (by decide +kernel)) (
  fm (z_if_eq (off := 6) (by decide +kernel) (by decide)) (
  fm (z_iload (i := 4) (by decide +kernel)) (
  fm (z_iret rfl (by decide +kernel)) (
  fm (z_iload_n (j := 2) (by decide +kernel) rfl) (
  fm (z_if_lt (off := 16) (by decide +kernel) (by decide)) (
  fm (z_iload_n (j := 2) (by decide +kernel) rfl) (
  fm (z_aload_n (j := 0) (by decide +kernel) rfl) (
  fm (z_getf (idx := 41) awX4 rfl (by decide) wd_1_152 rfl (by decide +kernel)) (
  fm (z_iload_n (j := 1) (by decide +kernel) rfl) (
  fm (z_aald (by decide +kernel)) (
  fm (z_getf (idx := 229) awX1 rfl (by decide) wd_1_138 rfl (by decide +kernel)) (
  fm (z_icmp_lt (off := 9) (by decide +kernel) (by decide)) (
  fm (z_aload_n (j := 0) (by decide +kernel) rfl) (
  fm (z_iconst (n := 0) (by decide +kernel) (by decide)) (
  fm (z_inv (idx := 57) rfl (by decide +kernel) wd_1_184 wd_1_186 ws_0 wd_1_1 wd_1_187 (by decide +kernel) ⟨Nat.le_of_ble_eq_true rfl, Nat.le_of_ble_eq_true rfl⟩) (
  fm (z_iret rfl (by decide +kernel)) (
  fm (z_aload_n (j := 0) (by decide +kernel) rfl) (
  fm (z_getf (idx := 41) awX4 rfl (by decide) wd_1_152 rfl (by decide +kernel)) (
  fm (z_iload_n (j := 1) (by decide +kernel) rfl) (
  fm (z_aald (by decide +kernel)) (
  fm (z_iload_n (j := 2) (by decide +kernel) rfl) (
  fm (z_iload_n (j := 3) (by decide +kernel) rfl) (
  fm (z_inv (idx := 233) rfl (by decide +kernel) wd_3_178 wd_3_179 wd_3_180 wd_1_6 wd_3_181 (by decide +kernel) ⟨Nat.le_of_ble_eq_true rfl, Nat.le_of_ble_eq_true rfl⟩) (
  fm (z_iconst (n := 1) (by decide +kernel) (by decide)) (
  fm (z_iret rfl (by decide +kernel)) (fn))))))))))))))))))))))))))))))
