/-! CODE of X0, by program -/
def kX0_advance : Cd := [(0, s_aload 0 1), (1, s_getf 0 1 4), (4, s_pushi 2 5), (5, s_bin (fun x y => x - y) 6), (6, s_istore 1 7), (7, s_iload 1 8), (8, s_if (fun x => x < 0) 34 11), (11, s_aload 0 12), (12, s_getf 0 0 15), (15, s_iload 1 16), (16, s_iald 17), (17, s_aload 0 18), (18, s_getf 0 0 21), (21, s_iload 1 22), (22, s_pushi 1 23), (23, s_bin (fun x y => x + y) 24), (24, s_iald 25), (25, s_icmp (fun x y => x ≤ y) 34 28), (28, s_iinc 1 (-1) 31), (31, s_goto 7), (34, s_iload 1 35), (35, s_if (fun x => 0 ≤ x) 39 38), (38, s_vret), (39, s_aload 0 40), (40, s_getf 0 1 43), (43, s_pushi 1 44), (44, s_bin (fun x y => x - y) 45), (45, s_istore 2 46), (46, s_iload 2 47), (47, s_iload 1 48), (48, s_icmp (fun x y => x ≤ y) 72 51), (51, s_aload 0 52), (52, s_getf 0 0 55), (55, s_iload 2 56), (56, s_iald 57), (57, s_aload 0 58), (58, s_getf 0 0 61), (61, s_iload 1 62), (62, s_iald 63), (63, s_icmp (fun x y => y ≤ x) 72 66), (66, s_iinc 2 (-1) 69), (69, s_goto 46), (72, s_aload 0 73), (73, s_iload 1 74), (74, s_iload 2 75), (75, s_inv mX0_exchangeTaken 0 2 78), (78, s_iload 1 79), (79, s_pushi 1 80), (80, s_bin (fun x y => x + y) 81), (81, s_istore 3 82), (82, s_aload 0 83), (83, s_getf 0 1 86), (86, s_pushi 1 87), (87, s_bin (fun x y => x - y) 88), (88, s_istore 4 90), (90, s_iload 3 91), (91, s_iload 4 93), (93, s_icmp (fun x y => y ≤ x) 112 96), (96, s_aload 0 97), (97, s_iload 3 98), (98, s_iload 4 100), (100, s_inv mX0_exchangeTaken 0 2 103), (103, s_iinc 3 1 106), (106, s_iinc 4 (-1) 109), (109, s_goto 90), (112, s_vret)]
set_option maxRecDepth 20000 in
theorem zX0_advance : ∀ q ∈ kX0_advance, Snd RX0 cX0_advance 5 none (rmM mX0_advance) q.1 q.2 :=
  fm (z_aload_n (j := 0) (by decide +kernel) rfl) (
  fm (z_getf (idx := 15) awX0 rfl (by decide) wd_1_94 rfl (by decide +kernel)) (
  fm (z_iconst (n := 2) (by decide +kernel) (by decide)) (
  fm (z_isub (by decide +kernel)) (
  fm (z_istore_n (j := 1) (by decide +kernel) rfl (by decide)) (
  fm (z_iload_n (j := 1) (by decide +kernel) rfl) (
  fm (z_if_lt (off := 26) (by decide +kernel) (by decide)) (
  fm (z_aload_n (j := 0) (by decide +kernel) rfl) (
  fm (z_getf (idx := 9) awX0 rfl (by decide) wd_1_92 rfl (by decide +kernel)) (
  fm (z_iload_n (j := 1) (by decide +kernel) rfl) (
  fm (z_iald (by decide +kernel)) (
  fm (z_aload_n (j := 0) (by decide +kernel) rfl) (
  fm (z_getf (idx := 9) awX0 rfl (by decide) wd_1_92 rfl (by decide +kernel)) (
  fm (z_iload_n (j := 1) (by decide +kernel) rfl) (
  fm (z_iconst (n := 1) (by decide +kernel) (by decide)) (
  fm (z_iadd (by decide +kernel)) (
  fm (z_iald (by decide +kernel)) (
  fm (z_icmp_le (off := 9) (by decide +kernel) (by decide)) (
  fm (z_iinc (n := (-1)) (by decide +kernel) (by decide) (by decide)) (
  fm (z_goto (off := (-24)) (by decide +kernel) (by decide)) (
  fm (z_iload_n (j := 1) (by decide +kernel) rfl) (
  fm (z_if_ge (off := 4) (by decide +kernel) (by decide)) (
  fm (z_vret rfl (by decide +kernel)) (
  fm (z_aload_n (j := 0) (by decide +kernel) rfl) (
  fm (z_getf (idx := 15) awX0 rfl (by decide) wd_1_94 rfl (by decide +kernel)) (
  fm (z_iconst (n := 1) (by decide +kernel) (by decide)) (
  fm (z_isub (by decide +kernel)) (
  fm (z_istore_n (j := 2) (by decide +kernel) rfl (by decide)) (
  fm (z_iload_n (j := 2) (by decide +kernel) rfl) (
  fm (z_iload_n (j := 1) (by decide +kernel) rfl) (
  fm (z_icmp_le (off := 24) (by decide +kernel) (by decide)) (
  fm (z_aload_n (j := 0) (by decide +kernel) rfl) (
  fm (z_getf (idx := 9) awX0 rfl (by decide) wd_1_92 rfl (by decide +kernel)) (
  fm (z_iload_n (j := 2) (by decide +kernel) rfl) (
  fm (z_iald (by decide +kernel)) (
  fm (z_aload_n (j := 0) (by decide +kernel) rfl) (
  fm (z_getf (idx := 9) awX0 rfl (by decide) wd_1_92 rfl (by decide +kernel)) (
  fm (z_iload_n (j := 1) (by decide +kernel) rfl) (
  fm (z_iald (by decide +kernel)) (
  fm (z_icmp_ge (off := 9) (by decide +kernel) (by decide)) (
  fm (z_iinc (n := (-1)) (by decide +kernel) (by decide) (by decide)) (
  fm (z_goto (off := (-23)) (by decide +kernel) (by decide)) (
  fm (z_aload_n (j := 0) (by decide +kernel) rfl) (
  fm (z_iload_n (j := 1) (by decide +kernel) rfl) (
  fm (z_iload_n (j := 2) (by decide +kernel) rfl) (
  fm (z_inv (idx := 25) rfl (by decide +kernel) wd_2_145 wd_2_147 ws_8 wd_1_4 wd_2_148 (by decide +kernel) ⟨Nat.le_of_ble_eq_true rfl, Nat.le_of_ble_eq_true rfl⟩) (
  fm (z_iload_n (j := 1) (by decide +kernel) rfl) (
  fm (z_iconst (n := 1) (by decide +kernel) (by decide)) (
  fm (z_iadd (by decide +kernel)) (
  fm (z_istore_n (j := 3) (by decide +kernel) rfl (by decide)) (
  fm (z_aload_n (j := 0) (by decide +kernel) rfl) (
  fm (z_getf (idx := 15) awX0 rfl (by decide) wd_1_94 rfl (by decide +kernel)) (
  fm (z_iconst (n := 1) (by decide +kernel) (by decide)) (
  fm (z_isub (by decide +kernel)) (
  fm (z_istore (i := 4) (by decide +kernel) (by decide)) (
  fm (z_iload_n (j := 3) (by decide +kernel) rfl) (
  fm (z_iload (i := 4) (by decide +kernel)) (
  fm (z_icmp_ge (off := 19) (by decide +kernel) (by decide)) (
  fm (z_aload_n (j := 0) (by decide +kernel) rfl) (
  fm (z_iload_n (j := 3) (by decide +kernel) rfl) (
  fm (z_iload (i := 4) (by decide +kernel)) (
  fm (z_inv (idx := 25) rfl (by decide +kernel) wd_2_145 wd_2_147 ws_8 wd_1_4 wd_2_148 (by decide +kernel) ⟨Nat.le_of_ble_eq_true rfl, Nat.le_of_ble_eq_true rfl⟩) (
  fm (z_iinc (n := 1) (by decide +kernel) (by decide) (by decide)) (
  fm (z_iinc (n := (-1)) (by decide +kernel) (by decide) (by decide)) (
  fm (z_goto (off := (-19)) (by decide +kernel) (by decide)) (
  fm (z_vret rfl (by decide +kernel)) (fn))))))))))))))))))))))))))))))))))))))))))))))))))))))))))))))))))
def kX0_become : Cd := [(0, s_aload 0 1), (1, s_aload 1 2), (2, s_getf 0 1 5), (5, s_putf .int 0 1 8), (8, s_aload 1 9), (9, s_getf 0 0 12), (12, s_pushi 0 13), (13, s_aload 0 14), (14, s_getf 0 0 17), (17, s_pushi 0 18), (18, s_pushi 8 20), (20, s_copy 23), (23, s_vret)]
set_option maxRecDepth 20000 in
theorem zX0_become : ∀ q ∈ kX0_become, Snd RX0 cX0_become 2 none (rmM mX0_become) q.1 q.2 :=
  fm (z_aload_n (j := 0) (by decide +kernel) rfl) (
  fm (z_aload_n (j := 1) (by decide +kernel) rfl) (
  fm (z_getf (idx := 15) awX0 rfl (by decide) wd_1_94 rfl (by decide +kernel)) (
  fm (z_putf (idx := 15) tyX0 tyX0_ok nmX0 awX0 rfl (by decide) wd_1_94 rfl rfl (by decide +kernel) (by decide +kernel)) (
  fm (z_aload_n (j := 1) (by decide +kernel) rfl) (
  fm (z_getf (idx := 9) awX0 rfl (by decide) wd_1_92 rfl (by decide +kernel)) (
  fm (z_iconst (n := 0) (by decide +kernel) (by decide)) (
  fm (z_aload_n (j := 0) (by decide +kernel) rfl) (
  fm (z_getf (idx := 9) awX0 rfl (by decide) wd_1_92 rfl (by decide +kernel)) (
  fm (z_iconst (n := 0) (by decide +kernel) (by decide)) (
  fm (z_bipush (n := 8) (by decide +kernel) (by decide)) (
  fm (z_copy (idx := 19) (by decide +kernel) wd_2_140 wd_2_70 wd_2_69 wd_1_9 (by decide)) (
  fm (z_vret rfl (by decide +kernel)) (fn)))))))))))))
def kX0_begin : Cd := [(0, s_aload 0 1), (1, s_iload 1 2), (2, s_putf .int 0 1 5), (5, s_pushi 1 6), (6, s_istore 2 7), (7, s_pushi 0 8), (8, s_istore 3 9), (9, s_iload 3 10), (10, s_aload 0 11), (11, s_getf 0 1 14), (14, s_icmp (fun x y => y ≤ x) 36 17), (17, s_aload 0 18), (18, s_getf 0 0 21), (21, s_iload 3 22), (22, s_iload 3 23), (23, s_iast 24), (24, s_iload 2 25), (25, s_iload 3 26), (26, s_pushi 1 27), (27, s_bin (fun x y => x + y) 28), (28, s_bin (fun x y => x * y) 29), (29, s_istore 2 30), (30, s_iinc 3 1 33), (33, s_goto 9), (36, s_iload 2 37), (37, s_iret)]
set_option maxRecDepth 20000 in
theorem zX0_begin : ∀ q ∈ kX0_begin, Snd RX0 cX0_begin 4 (some .int) (rmM mX0_begin) q.1 q.2 :=
  fm (z_aload_n (j := 0) (by decide +kernel) rfl) (
  fm (z_iload_n (j := 1) (by decide +kernel) rfl) (
  fm (z_putf (idx := 15) tyX0 tyX0_ok nmX0 awX0 rfl (by decide) wd_1_94 rfl rfl (by decide +kernel) (by decide +kernel)) (
  fm (z_iconst (n := 1) (by decide +kernel) (by decide)) (
  fm (z_istore_n (j := 2) (by decide +kernel) rfl (by decide)) (
  fm (z_iconst (n := 0) (by decide +kernel) (by decide)) (
  fm (z_istore_n (j := 3) (by decide +kernel) rfl (by decide)) (
  fm (z_iload_n (j := 3) (by decide +kernel) rfl) (
  fm (z_aload_n (j := 0) (by decide +kernel) rfl) (
  fm (z_getf (idx := 15) awX0 rfl (by decide) wd_1_94 rfl (by decide +kernel)) (
  fm (z_icmp_ge (off := 22) (by decide +kernel) (by decide)) (
  fm (z_aload_n (j := 0) (by decide +kernel) rfl) (
  fm (z_getf (idx := 9) awX0 rfl (by decide) wd_1_92 rfl (by decide +kernel)) (
  fm (z_iload_n (j := 3) (by decide +kernel) rfl) (
  fm (z_iload_n (j := 3) (by decide +kernel) rfl) (
  fm (z_iast (by decide +kernel)) (
  fm (z_iload_n (j := 2) (by decide +kernel) rfl) (
  fm (z_iload_n (j := 3) (by decide +kernel) rfl) (
  fm (z_iconst (n := 1) (by decide +kernel) (by decide)) (
  fm (z_iadd (by decide +kernel)) (
  fm (z_imul (by decide +kernel)) (
  fm (z_istore_n (j := 2) (by decide +kernel) rfl (by decide)) (
  fm (z_iinc (n := 1) (by decide +kernel) (by decide) (by decide)) (
  fm (z_goto (off := (-24)) (by decide +kernel) (by decide)) (
  fm (z_iload_n (j := 2) (by decide +kernel) rfl) (
  fm (z_iret rfl (by decide +kernel)) (fn))))))))))))))))))))))))))
def kX0_exchangeTaken : Cd := [(0, s_aload 0 1), (1, s_getf 0 0 4), (4, s_iload 1 5), (5, s_iald 6), (6, s_istore 3 7), (7, s_aload 0 8), (8, s_getf 0 0 11), (11, s_iload 1 12), (12, s_aload 0 13), (13, s_getf 0 0 16), (16, s_iload 2 17), (17, s_iald 18), (18, s_iast 19), (19, s_aload 0 20), (20, s_getf 0 0 23), (23, s_iload 2 24), (24, s_iload 3 25), (25, s_iast 26), (26, s_vret)]
set_option maxRecDepth 20000 in
theorem zX0_exchangeTaken : ∀ q ∈ kX0_exchangeTaken, Snd RX0 cX0_exchangeTaken 4 none (rmM mX0_exchangeTaken) q.1 q.2 :=
  fm (z_aload_n (j := 0) (by decide +kernel) rfl) (
  fm (z_getf (idx := 9) awX0 rfl (by decide) wd_1_92 rfl (by decide +kernel)) (
  fm (z_iload_n (j := 1) (by decide +kernel) rfl) (
  fm (z_iald (by decide +kernel)) (
  fm (z_istore_n (j := 3) (by decide +kernel) rfl (by decide)) (
  fm (z_aload_n (j := 0) (by decide +kernel) rfl) (
  fm (z_getf (idx := 9) awX0 rfl (by decide) wd_1_92 rfl (by decide +kernel)) (
  fm (z_iload_n (j := 1) (by decide +kernel) rfl) (
  fm (z_aload_n (j := 0) (by decide +kernel) rfl) (
  fm (z_getf (idx := 9) awX0 rfl (by decide) wd_1_92 rfl (by decide +kernel)) (
  fm (z_iload_n (j := 2) (by decide +kernel) rfl) (
  fm (z_iald (by decide +kernel)) (
  fm (z_iast (by decide +kernel)) (
  fm (z_aload_n (j := 0) (by decide +kernel) rfl) (
  fm (z_getf (idx := 9) awX0 rfl (by decide) wd_1_92 rfl (by decide +kernel)) (
  fm (z_iload_n (j := 2) (by decide +kernel) rfl) (
  fm (z_iload_n (j := 3) (by decide +kernel) rfl) (
  fm (z_iast (by decide +kernel)) (
  fm (z_vret rfl (by decide +kernel)) (fn)))))))))))))))))))
