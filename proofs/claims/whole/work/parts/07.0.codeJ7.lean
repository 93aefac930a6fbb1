/-! CODE of J7, by program -/
def kJ7_fill_53178 : Cd := [(0, s_pushi 0 1), (1, s_istore 2 2), (2, s_aload 0 3), (3, s_alen 4), (4, s_istore 3 5), (5, s_iload 2 6), (6, s_iload 3 7), (7, s_icmp (fun x y => y ≤ x) 20 10), (10, s_aload 0 11), (11, s_iload 2 12), (12, s_iload 1 13), (13, s_iast 14), (14, s_iinc 2 1 17), (17, s_goto 5), (20, s_vret)]
set_option maxRecDepth 20000 in
theorem zJ7_fill_53178 : ∀ q ∈ kJ7_fill_53178, Snd RJ7 cJ7_fill_53178 4 none (rmM mJ7_fill_53178) q.1 q.2 :=
  fm (z_iconst (n := 0) (by decide +kernel) (by decide)) (
  fm (z_istore_n (j := 2) (by decide +kernel) rfl (by decide)) (
  fm (z_aload_n (j := 0) (by decide +kernel) rfl) (
  fm (z_alen (by decide +kernel)) (
  fm (z_istore_n (j := 3) (by decide +kernel) rfl (by decide)) (
  fm (z_iload_n (j := 2) (by decide +kernel) rfl) (
  fm (z_iload_n (j := 3) (by decide +kernel) rfl) (
  fm (z_icmp_ge (off := 13) (by decide +kernel) (by decide)) (
  fm (z_aload_n (j := 0) (by decide +kernel) rfl) (
  fm (z_iload_n (j := 2) (by decide +kernel) rfl) (
  fm (z_iload_n (j := 1) (by decide +kernel) rfl) (
  fm (z_iast (by decide +kernel)) (
  fm (z_iinc (n := 1) (by decide +kernel) (by decide) (by decide)) (
  fm (z_goto (off := (-12)) (by decide +kernel) (by decide)) (
  fm (z_vret rfl (by decide +kernel)) (fn)))))))))))))))
