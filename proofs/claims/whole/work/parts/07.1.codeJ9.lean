/-! CODE of J9, by program -/
def kJ9_floorMod_7cf53 : Cd := [(0, s_iload 0 1), (1, s_iload 1 2), (2, s_rem 3), (3, s_istore 2 4), (4, s_iload 0 5), (5, s_iload 1 6), (6, s_bin (fun x y => x ^^^ y) 7), (7, s_if (fun x => 0 ≤ x) 18 10), (10, s_iload 2 11), (11, s_if (fun x => x = 0) 18 14), (14, s_iload 2 15), (15, s_iload 1 16), (16, s_bin (fun x y => x + y) 17), (17, s_iret), (18, s_iload 2 19), (19, s_iret)]
set_option maxRecDepth 20000 in
theorem zJ9_floorMod_7cf53 : ∀ q ∈ kJ9_floorMod_7cf53, Snd RJ9 cJ9_floorMod_7cf53 3 (some .int) (rmM mJ9_floorMod_7cf53) q.1 q.2 :=
  fm (z_iload_n (j := 0) (by decide +kernel) rfl) (
  fm (z_iload_n (j := 1) (by decide +kernel) rfl) (
  fm (z_irem (by decide +kernel)) (
  fm (z_istore_n (j := 2) (by decide +kernel) rfl (by decide)) (
  fm (z_iload_n (j := 0) (by decide +kernel) rfl) (
  fm (z_iload_n (j := 1) (by decide +kernel) rfl) (
  fm (z_ixor (by decide +kernel)) (
  fm (z_if_ge (off := 11) (by decide +kernel) (by decide)) (
  fm (z_iload_n (j := 2) (by decide +kernel) rfl) (
  fm (z_if_eq (off := 7) (by decide +kernel) (by decide)) (
  fm (z_iload_n (j := 2) (by decide +kernel) rfl) (
  fm (z_iload_n (j := 1) (by decide +kernel) rfl) (
  fm (z_iadd (by decide +kernel)) (
  fm (z_iret rfl (by decide +kernel)) (
  fm (z_iload_n (j := 2) (by decide +kernel) rfl) (
  fm (z_iret rfl (by decide +kernel)) (fn))))))))))))))))
