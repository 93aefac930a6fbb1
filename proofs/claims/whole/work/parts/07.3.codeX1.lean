/-! CODE of X1, by program -/
def kX1_begin : Cd := [(0, s_aload 0 1), (1, s_iload 1 2), (2, s_putf .int 1 1 5), (5, s_aload 0 6), (6, s_iload 2 7), (7, s_putf .int 1 2 10), (10, s_aload 0 11), (11, s_getf 1 0 14), (14, s_pushi 0 15), (15, s_invS mJ7_fill_53178 2 18), (18, s_vret)]
set_option maxRecDepth 20000 in
theorem zX1_begin : ∀ q ∈ kX1_begin, Snd RX1 cX1_begin 3 none (rmM mX1_begin) q.1 q.2 :=
  fm (z_aload_n (j := 0) (by decide +kernel) rfl) (
  fm (z_iload_n (j := 1) (by decide +kernel) rfl) (
  fm (z_putf (idx := 15) tyX1 tyX1_ok nmX1 awX1 rfl (by decide) wd_1_135 rfl rfl (by decide +kernel) (by decide +kernel)) (
  fm (z_aload_n (j := 0) (by decide +kernel) rfl) (
  fm (z_iload_n (j := 2) (by decide +kernel) rfl) (
  fm (z_putf (idx := 19) tyX1 tyX1_ok nmX1 awX1 rfl (by decide) wd_1_137 rfl rfl (by decide +kernel) (by decide +kernel)) (
  fm (z_aload_n (j := 0) (by decide +kernel) rfl) (
  fm (z_getf (idx := 9) awX1 rfl (by decide) wd_1_133 rfl (by decide +kernel)) (
  fm (z_iconst (n := 0) (by decide +kernel) (by decide)) (
  fm (z_invS (idx := 22) (by decide +kernel) wd_3_169 wd_1_29 wd_1_3 wd_1_30 (by decide +kernel) ⟨Nat.le_of_ble_eq_true rfl, Nat.le_of_ble_eq_true rfl⟩) (
  fm (z_vret rfl (by decide +kernel)) (fn)))))))))))
def kX1_hasPart : Cd := [(0, s_iload 1 1), (1, s_if (fun x => x < 0) 30 4), (4, s_iload 2 5), (5, s_if (fun x => x < 0) 30 8), (8, s_iload 2 9), (9, s_aload 0 10), (10, s_getf 1 2 13), (13, s_icmp (fun x y => y < x) 30 16), (16, s_iload 1 17), (17, s_aload 0 18), (18, s_getf 1 2 21), (21, s_iload 2 22), (22, s_bin (fun x y => x - y) 23), (23, s_icmp (fun x y => y < x) 30 26), (26, s_pushi 1 27), (27, s_goto 31), (30, s_pushi 0 31), (31, s_zret)]
set_option maxRecDepth 20000 in
theorem zX1_hasPart : ∀ q ∈ kX1_hasPart, Snd RX1 cX1_hasPart 3 (some .boolean) (rmM mX1_hasPart) q.1 q.2 :=
  fm (z_iload_n (j := 1) (by decide +kernel) rfl) (
  fm (z_if_lt (off := 29) (by decide +kernel) (by decide)) (
  fm (z_iload_n (j := 2) (by decide +kernel) rfl) (
  fm (z_if_lt (off := 25) (by decide +kernel) (by decide)) (
  fm (z_iload_n (j := 2) (by decide +kernel) rfl) (
  fm (z_aload_n (j := 0) (by decide +kernel) rfl) (
  fm (z_getf (idx := 19) awX1 rfl (by decide) wd_1_137 rfl (by decide +kernel)) (
  fm (z_icmp_gt (off := 17) (by decide +kernel) (by decide)) (
  fm (z_iload_n (j := 1) (by decide +kernel) rfl) (
  fm (z_aload_n (j := 0) (by decide +kernel) rfl) (
  fm (z_getf (idx := 19) awX1 rfl (by decide) wd_1_137 rfl (by decide +kernel)) (
  fm (z_iload_n (j := 2) (by decide +kernel) rfl) (
  fm (z_isub (by decide +kernel)) (
  fm (z_icmp_gt (off := 7) (by decide +kernel) (by decide)) (
  fm (z_iconst (n := 1) (by decide +kernel) (by decide)) (
  fm (z_goto (off := 4) (by decide +kernel) (by decide)) (
  fm (z_iconst (n := 0) (by decide +kernel) (by decide)) (
  fm (z_zret rfl (by decide +kernel)) (fn))))))))))))))))))
def kX1_put : Cd := [(0, s_aload 0 1), (1, s_getf 1 1 4), (4, s_sw [(8, 32), (16, 43)] 54), (32, s_aload 0 33), (33, s_getf 1 0 36), (36, s_iload 1 37), (37, s_iload 2 38), (38, s_un (fun x => x.toInt8.toInt32) 39), (39, s_iast 40), (40, s_goto 61), (43, s_aload 0 44), (44, s_getf 1 0 47), (47, s_iload 1 48), (48, s_iload 2 49), (49, s_un (fun x => x.toInt16.toInt32) 50), (50, s_iast 51), (51, s_goto 61), (54, s_aload 0 55), (55, s_getf 1 0 58), (58, s_iload 1 59), (59, s_iload 2 60), (60, s_iast 61), (61, s_vret)]
set_option maxRecDepth 20000 in
theorem zX1_put : ∀ q ∈ kX1_put, Snd RX1 cX1_put 3 none (rmM mX1_put) q.1 q.2 :=
  fm (z_aload_n (j := 0) (by decide +kernel) rfl) (
  fm (z_getf (idx := 15) awX1 rfl (by decide) wd_1_135 rfl (by decide +kernel)) (
  fm (z_lsw (dflt := 50) (ps := #[(8, 28), (16, 39)]) (len := 28) (by decide +kernel) (by decide) (by decide +kernel) (by decide +kernel)) (
  fm (z_aload_n (j := 0) (by decide +kernel) rfl) (
  fm (z_getf (idx := 9) awX1 rfl (by decide) wd_1_133 rfl (by decide +kernel)) (
  fm (z_iload_n (j := 1) (by decide +kernel) rfl) (
  fm (z_iload_n (j := 2) (by decide +kernel) rfl) (
  fm (z_i2b (by decide +kernel)) (
  fm (z_iast (by decide +kernel)) (
  fm (z_goto (off := 21) (by decide +kernel) (by decide)) (
  fm (z_aload_n (j := 0) (by decide +kernel) rfl) (
  fm (z_getf (idx := 9) awX1 rfl (by decide) wd_1_133 rfl (by decide +kernel)) (
  fm (z_iload_n (j := 1) (by decide +kernel) rfl) (
  fm (z_iload_n (j := 2) (by decide +kernel) rfl) (
  fm (z_i2s (by decide +kernel)) (
  fm (z_iast (by decide +kernel)) (
  fm (z_goto (off := 10) (by decide +kernel) (by decide)) (
  fm (z_aload_n (j := 0) (by decide +kernel) rfl) (
  fm (z_getf (idx := 9) awX1 rfl (by decide) wd_1_133 rfl (by decide +kernel)) (
  fm (z_iload_n (j := 1) (by decide +kernel) rfl) (
  fm (z_iload_n (j := 2) (by decide +kernel) rfl) (
  fm (z_iast (by decide +kernel)) (
  fm (z_vret rfl (by decide +kernel)) (fn)))))))))))))))))))))))
