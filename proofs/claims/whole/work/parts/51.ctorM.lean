/-! THE CONSTRUCTORS of both systems -/
theorem dfX0 : ∀ j, j < 2 → defaultValue (tyX0 j) = vp_V [.null, .int 0] j := fun j hj => match j, hj with | 0, _ => rfl | 1, _ => rfl | n + 2, h => absurd h (by omega)
theorem dfX1 : ∀ j, j < 3 → defaultValue (tyX1 j) = vp_V [.null, .int 0, .int 0] j := fun j hj => match j, hj with | 0, _ => rfl | 1, _ => rfl | 2, _ => rfl | n + 3, h => absurd h (by omega)
theorem dfX2 : ∀ j, j < 12 → defaultValue (tyX2 j) = vp_V [.null, .null, .null, .null, .null, .null, .null, .null, .int 0, .int 0, .int 0, .int 0] j := fun j hj => match j, hj with | 0, _ => rfl | 1, _ => rfl | 2, _ => rfl | 3, _ => rfl | 4, _ => rfl | 5, _ => rfl | 6, _ => rfl | 7, _ => rfl | 8, _ => rfl | 9, _ => rfl | 10, _ => rfl | 11, _ => rfl | n + 12, h => absurd h (by omega)
theorem dfX3 : ∀ j, j < 6 → defaultValue (tyX3 j) = vp_V [.null, .int 0, .int 0, .int 0, .int 0, .int 0] j := fun j hj => match j, hj with | 0, _ => rfl | 1, _ => rfl | 2, _ => rfl | 3, _ => rfl | 4, _ => rfl | 5, _ => rfl | n + 6, h => absurd h (by omega)
theorem dfX4 : ∀ j, j < 10 → defaultValue (tyX4 j) = vp_V [.null, .null, .null, .null, .null, .null, .null, .null, .null, .int 0] j := fun j hj => match j, hj with | 0, _ => rfl | 1, _ => rfl | 2, _ => rfl | 3, _ => rfl | 4, _ => rfl | 5, _ => rfl | 6, _ => rfl | 7, _ => rfl | 8, _ => rfl | 9, _ => rfl | n + 10, h => absurd h (by omega)
theorem dfX5 : ∀ j, j < 17 → defaultValue (tyX5 j) = vp_V [.null, .null, .null, .null, .int 0, .null, .int 0, .null, .int 0, .int 0, .int 0, .int 0, .int 0, .null, .null, .null, .null] j := fun j hj => match j, hj with | 0, _ => rfl | 1, _ => rfl | 2, _ => rfl | 3, _ => rfl | 4, _ => rfl | 5, _ => rfl | 6, _ => rfl | 7, _ => rfl | 8, _ => rfl | 9, _ => rfl | 10, _ => rfl | 11, _ => rfl | 12, _ => rfl | 13, _ => rfl | 14, _ => rfl | 15, _ => rfl | 16, _ => rfl | n + 17, h => absurd h (by omega)
theorem d_i5_0 : decode cX5_init 0 = .ok (.aload_n 0, 1) := by decide +kernel
theorem d_i5_1 : decode cX5_init 1 = .ok (.invokespecial 1, 3) := by decide +kernel
theorem d_i5_4 : decode cX5_init 4 = .ok (.aload_n 0, 1) := by decide +kernel
theorem d_i5_5 : decode cX5_init 5 = .ok (.bipush 78, 2) := by decide +kernel
theorem d_i5_7 : decode cX5_init 7 = .ok (.newarray .int, 2) := by decide +kernel
theorem d_i5_9 : decode cX5_init 9 = .ok (.putfield 7, 3) := by decide +kernel
theorem d_i5_12 : decode cX5_init 12 = .ok (.aload_n 0, 1) := by decide +kernel
theorem d_i5_13 : decode cX5_init 13 = .ok (.bipush 78, 2) := by decide +kernel
theorem d_i5_15 : decode cX5_init 15 = .ok (.newarray .int, 2) := by decide +kernel
theorem d_i5_17 : decode cX5_init 17 = .ok (.putfield 13, 3) := by decide +kernel
theorem d_i5_20 : decode cX5_init 20 = .ok (.aload_n 0, 1) := by decide +kernel
theorem d_i5_21 : decode cX5_init 21 = .ok (.bipush 78, 2) := by decide +kernel
theorem d_i5_23 : decode cX5_init 23 = .ok (.newarray .int, 2) := by decide +kernel
theorem d_i5_25 : decode cX5_init 25 = .ok (.putfield 16, 3) := by decide +kernel
theorem d_i5_28 : decode cX5_init 28 = .ok (.aload_n 0, 1) := by decide +kernel
theorem d_i5_29 : decode cX5_init 29 = .ok (.bipush 7, 2) := by decide +kernel
theorem d_i5_31 : decode cX5_init 31 = .ok (.newarray .int, 2) := by decide +kernel
theorem d_i5_33 : decode cX5_init 33 = .ok (.putfield 19, 3) := by decide +kernel
theorem d_i5_36 : decode cX5_init 36 = .ok (.aload_n 0, 1) := by decide +kernel
theorem d_i5_37 : decode cX5_init 37 = .ok (.bipush 8, 2) := by decide +kernel
theorem d_i5_39 : decode cX5_init 39 = .ok (.newarray .int, 2) := by decide +kernel
theorem d_i5_41 : decode cX5_init 41 = .ok (.putfield 22, 3) := by decide +kernel
theorem d_i5_44 : decode cX5_init 44 = .ok (.aload_n 0, 1) := by decide +kernel
theorem d_i5_45 : decode cX5_init 45 = .ok (.bipush 120, 2) := by decide +kernel
theorem d_i5_47 : decode cX5_init 47 = .ok (.newarray .int, 2) := by decide +kernel
theorem d_i5_49 : decode cX5_init 49 = .ok (.putfield 25, 3) := by decide +kernel
theorem d_i5_52 : decode cX5_init 52 = .ok (.aload_n 0, 1) := by decide +kernel
theorem d_i5_53 : decode cX5_init 53 = .ok (.iconst 4, 1) := by decide +kernel
theorem d_i5_54 : decode cX5_init 54 = .ok (.newarray .int, 2) := by decide +kernel
theorem d_i5_56 : decode cX5_init 56 = .ok (.putfield 28, 3) := by decide +kernel
theorem d_i5_59 : decode cX5_init 59 = .ok (.aload_n 0, 1) := by decide +kernel
theorem d_i5_60 : decode cX5_init 60 = .ok (.iconst 4, 1) := by decide +kernel
theorem d_i5_61 : decode cX5_init 61 = .ok (.newarray .int, 2) := by decide +kernel
theorem d_i5_63 : decode cX5_init 63 = .ok (.putfield 31, 3) := by decide +kernel
theorem d_i5_66 : decode cX5_init 66 = .ok (.aload_n 0, 1) := by decide +kernel
theorem d_i5_67 : decode cX5_init 67 = .ok (.sipush 160, 3) := by decide +kernel
theorem d_i5_70 : decode cX5_init 70 = .ok (.newarray .int, 2) := by decide +kernel
theorem d_i5_72 : decode cX5_init 72 = .ok (.putfield 34, 3) := by decide +kernel
theorem d_i5_75 : decode cX5_init 75 = .ok (.aload_n 0, 1) := by decide +kernel
theorem d_i5_76 : decode cX5_init 76 = .ok (.bipush 40, 2) := by decide +kernel
theorem d_i5_78 : decode cX5_init 78 = .ok (.newarray .int, 2) := by decide +kernel
theorem d_i5_80 : decode cX5_init 80 = .ok (.putfield 37, 3) := by decide +kernel
theorem d_i5_83 : decode cX5_init 83 = .ok (.aload_n 0, 1) := by decide +kernel
theorem d_i5_84 : decode cX5_init 84 = .ok (.getfield 7, 3) := by decide +kernel
theorem d_i5_87 : decode cX5_init 87 = .ok (.iconst 3, 1) := by decide +kernel
theorem d_i5_88 : decode cX5_init 88 = .ok (.iconst 1, 1) := by decide +kernel
theorem d_i5_89 : decode cX5_init 89 = .ok (.iastore, 1) := by decide +kernel
theorem d_i5_90 : decode cX5_init 90 = .ok (.iconst 0, 1) := by decide +kernel
theorem d_i5_91 : decode cX5_init 91 = .ok (.istore_n 1, 1) := by decide +kernel
theorem d_i5_92 : decode cX5_init 92 = .ok (.iload_n 1, 1) := by decide +kernel
theorem d_i5_93 : decode cX5_init 93 = .ok (.bipush 12, 2) := by decide +kernel
theorem d_i5_95 : decode cX5_init 95 = .ok (.if_icmp .ge 18, 3) := by decide +kernel
theorem d_i5_98 : decode cX5_init 98 = .ok (.aload_n 0, 1) := by decide +kernel
theorem d_i5_99 : decode cX5_init 99 = .ok (.getfield 7, 3) := by decide +kernel
theorem d_i5_102 : decode cX5_init 102 = .ok (.iconst 4, 1) := by decide +kernel
theorem d_i5_103 : decode cX5_init 103 = .ok (.iload_n 1, 1) := by decide +kernel
theorem d_i5_104 : decode cX5_init 104 = .ok (.iadd, 1) := by decide +kernel
theorem d_i5_105 : decode cX5_init 105 = .ok (.iconst 3, 1) := by decide +kernel
theorem d_i5_106 : decode cX5_init 106 = .ok (.iastore, 1) := by decide +kernel
theorem d_i5_107 : decode cX5_init 107 = .ok (.iinc 1 1, 3) := by decide +kernel
theorem d_i5_110 : decode cX5_init 110 = .ok (.goto (-18), 3) := by decide +kernel
theorem d_i5_113 : decode cX5_init 113 = .ok (.iconst 0, 1) := by decide +kernel
theorem d_i5_114 : decode cX5_init 114 = .ok (.istore_n 1, 1) := by decide +kernel
theorem d_i5_115 : decode cX5_init 115 = .ok (.iload_n 1, 1) := by decide +kernel
theorem d_i5_116 : decode cX5_init 116 = .ok (.bipush 10, 2) := by decide +kernel
theorem d_i5_118 : decode cX5_init 118 = .ok (.if_icmp .ge 19, 3) := by decide +kernel
theorem d_i5_121 : decode cX5_init 121 = .ok (.aload_n 0, 1) := by decide +kernel
theorem d_i5_122 : decode cX5_init 122 = .ok (.getfield 7, 3) := by decide +kernel
theorem d_i5_125 : decode cX5_init 125 = .ok (.bipush 68, 2) := by decide +kernel
theorem d_i5_127 : decode cX5_init 127 = .ok (.iload_n 1, 1) := by decide +kernel
theorem d_i5_128 : decode cX5_init 128 = .ok (.iadd, 1) := by decide +kernel
theorem d_i5_129 : decode cX5_init 129 = .ok (.iconst (-1), 1) := by decide +kernel
theorem d_i5_130 : decode cX5_init 130 = .ok (.iastore, 1) := by decide +kernel
theorem d_i5_131 : decode cX5_init 131 = .ok (.iinc 1 1, 3) := by decide +kernel
theorem d_i5_134 : decode cX5_init 134 = .ok (.goto (-19), 3) := by decide +kernel
theorem d_i5_137 : decode cX5_init 137 = .ok (.return_, 1) := by decide +kernel
def fM (i j : Nat) : Nat → Int32 := fun k => if 4 ≤ k ∧ k < 4 + i then 3 else if 68 ≤ k ∧ k < 68 + j then -1 else if k = 3 then 1 else 0
theorem fM_00 : upd (fun _ => 0) 3 1 = fM 0 0 := by
  funext k
  unfold upd fM
  rw [if_neg (show ¬ (4 ≤ k ∧ k < 4 + 0) by omega), if_neg (show ¬ (68 ≤ k ∧ k < 68 + 0) by omega)]
theorem fM_i (i : Nat) : upd (fM i 0) (4 + i) 3 = fM (i + 1) 0 := by
  funext k
  unfold upd fM
  by_cases h : k = 4 + i
  · rw [if_pos h, if_pos (by omega)]
  · rw [if_neg h]
    by_cases h2 : 4 ≤ k ∧ k < 4 + i
    · rw [if_pos h2, if_pos (by omega)]
    · rw [if_neg h2, if_neg (show ¬ (4 ≤ k ∧ k < 4 + (i + 1)) by omega)]
theorem fM_j (j : Nat) : upd (fM 12 j) (68 + j) (-1) = fM 12 (j + 1) := by
  funext k
  unfold upd fM
  by_cases h : k = 68 + j
  · rw [if_pos h, if_neg (by omega), if_pos (by omega)]
  · rw [if_neg h]
    by_cases h2 : 4 ≤ k ∧ k < 4 + 12
    · rw [if_pos h2, if_pos h2]
    · rw [if_neg h2, if_neg h2]
      by_cases h3 : 68 ≤ k ∧ k < 68 + j
      · rw [if_pos h3, if_pos (by omega)]
      · rw [if_neg h3, if_neg (show ¬ (68 ≤ k ∧ k < 68 + (j + 1)) by omega)]
/-- the cells of a new reference -/
abbrev wMd0 (cI : ClassId) (f : Nat → Int32) (a : Nat) (u : Nat → Nat) : va_W := [(a, .inr (5, [.ref (u 0), .ref (u 1), .ref (u 2), .ref (u 3), .int 0, .ref (u 4), .int 0, .ref (u 5), .int 0, .int 0, .int 0, .int 0, .int 0, .ref (u 6), .ref (u 7), .ref (u 8), .ref (u 9)])), (u 0, .inl (cI, 78, .inl f)), (u 1, .inl (cI, 78, .inl (fun _ => 0))), (u 2, .inl (cI, 78, .inl (fun _ => 0))), (u 3, .inl (cI, 7, .inl (fun _ => 0))), (u 4, .inl (cI, 8, .inl (fun _ => 0))), (u 5, .inl (cI, 120, .inl (fun _ => 0))), (u 6, .inl (cI, 4, .inl (fun _ => 0))), (u 7, .inl (cI, 4, .inl (fun _ => 0))), (u 8, .inl (cI, 160, .inl (fun _ => 0))), (u 9, .inl (cI, 40, .inl (fun _ => 0)))]
set_option maxHeartbeats 4000000 in
set_option maxRecDepth 100000 in
/-- MovingMarketModel() -/
theorem c_i5 (l : Launch) (D : va_G) (cI cS : ClassId) (h0 sz : Nat) : Met l yX5_init (wsY yX5_init cX5_init 2) ({ frames := 1, cells := 10, slots := 577, locals := 12 }) (va_Pc [.ref h0] (Pi D cI cS [(h0, .inr (5, [.null, .null, .null, .null, .int 0, .null, .int 0, .null, .int 0, .int 0, .int 0, .int 0, .int 0, .null, .null, .null, .null]))] sz)) (va_Qv (fun _ : (Nat → Nat) => True) (fun u t => Bi D cI cS (va_A [(h0, .inr (5, [.null, .null, .null, .null, .int 0, .null, .int 0, .null, .int 0, .int 0, .int 0, .int 0, .int 0, .null, .null, .null, .null]))] sz) (wMd0 cI (fM 12 10) h0 u) t) (va_A [(h0, .inr (5, [.null, .null, .null, .null, .int 0, .null, .int 0, .null, .int 0, .int 0, .int 0, .int 0, .int 0, .null, .null, .null, .null]))] sz)) 10 577 (va_A [(h0, .inr (5, [.null, .null, .null, .null, .int 0, .null, .int 0, .null, .int 0, .int 0, .int 0, .int 0, .int 0, .null, .null, .null, .null]))] sz) := by
  refine Met.ofW (cc := cX5_init) (maxL := 2) (ret := none) (by decide) rfl ?_
  intro p e s m args below meth c s₁ B hml hv
  obtain ⟨rfl, hsz, hP, hK, hD0⟩ := hv
  have hx := B.exec
  have hb := B.bytes
  have hr := B.returns
  have hts := atoms_spec (ws := wsY yX5_init cX5_init 2) B.pre
  have hAW : ∀ w ∈ AW, w.before (([.ref h0] : List Value).toArray) s = true := fun w h => hts w (List.mem_cons_of_mem _ h)
  have hown : s.vm.findClass RX5 = some m.cls := findClass_of_methodNamed B.named
  have hlocks := B.notSynchronized
  have hin : meth.name = "<init>" := (name_of_methodNamed B.named B.method).1
  subst hsz
  have hD := hD0.self (sz := s.heap.size)
  generalize hAe : va_A [(h0, .inr (5, [.null, .null, .null, .null, .int 0, .null, .int 0, .null, .int 0, .int 0, .int 0, .int 0, .int 0, .null, .null, .null, .null]))] s.heap.size = A at hD ⊢
  have hA : ∀ q : Nat, s.heap.size ≤ q → A q := fun q h => by rw [← hAe]; exact Or.inr h
  have hS : va_S A s.heap s.heap [] := va_S.rf
  have hP : va_P D vwCl [(h0, .inr (5, [.null, .null, .null, .null, .int 0, .null, .int 0, .null, .int 0, .int 0, .int 0, .int 0, .int 0, .null, .null, .null, .null]))] s.heap := hP
  have hl := lv_entry ([.ref h0]) (n := 2) (Nat.le_of_ble_eq_true rfl)
  rw [lg_entry_eq]
  generalize (lg_sl ([.ref h0]) ++ List.replicate (2 - (lg_sl ([.ref h0])).length) Slot.unset).toArray = ls at hl ⊢
  have hl : lv_has ls 2 [(0, .ref h0)] := hl
  refine lv_aload_n hx hb d_i5_0 rfl (lv_at hl 0 rfl) ?_
  refine W.objInit hx hb hown (hAW _ wd_4_11) (hAW _ wd_1_20) (hAW _ wd_1_21) rfl (by rw [hml]; exact hl.1) rfl d_i5_1 (Nat.le_of_ble_eq_true rfl) (Nat.le_of_ble_eq_true rfl) ?_
  refine W.eq (g2 := F0 m 4 ls []) rfl ?_
  refine lv_aload_n hx hb d_i5_4 rfl (lv_at hl 0 rfl) ?_
  refine lv_bipush (v := 78) hx hb d_i5_5 (by decide) ?_
  refine newI hx hb (hAW _ wd_1_85) hK hP hD hS hA (n := 78) (N' := 78) (by decide) (by decide) (Nat.le_of_ble_eq_true rfl) (Nat.le_of_ble_eq_true rfl) (Nat.le_of_ble_eq_true rfl) d_i5_7 (fun q1 H hP hD hS => ?_)
  have hP : va_P D vwCl [(h0, .inr (5, [.null, .null, .null, .null, .int 0, .null, .int 0, .null, .int 0, .int 0, .int 0, .int 0, .int 0, .null, .null, .null, .null])), (q1, .inl (cI, 78, .inl (fun _ => 0)))] H := hP
  have hD : va_D A [(h0, .inr (5, [.null, .null, .null, .null, .int 0, .null, .int 0, .null, .int 0, .int 0, .int 0, .int 0, .int 0, .null, .null, .null, .null])), (q1, .inl (cI, 78, .inl (fun _ => 0)))] := hD
  refine va_putF (D := D) (ci := 5) (v := .ref q1) (ty := .array .int) (C := RX5) (T := TX5) (N := 17) hx hb hAW awX5 tyX5 tyX5_ok nmX5 hown hK hP hD hS 0 rfl rfl 0 (by decide) (hAW _ wd_4_12) (fun _ h9 => h9) rfl hin rfl (tyX5_ok 0 (by decide)) rfl rfl (Nat.le_of_ble_eq_true rfl) d_i5_9 (fun H locs hP hD hS => ?_)
  have hP : va_P D vwCl [(h0, .inr (5, [.ref q1, .null, .null, .null, .int 0, .null, .int 0, .null, .int 0, .int 0, .int 0, .int 0, .int 0, .null, .null, .null, .null])), (q1, .inl (cI, 78, .inl (fun _ => 0)))] H := hP
  have hD : va_D A [(h0, .inr (5, [.ref q1, .null, .null, .null, .int 0, .null, .int 0, .null, .int 0, .int 0, .int 0, .int 0, .int 0, .null, .null, .null, .null])), (q1, .inl (cI, 78, .inl (fun _ => 0)))] := hD
  refine lv_aload_n hx hb d_i5_12 rfl (lv_at hl 0 rfl) ?_
  refine lv_bipush (v := 78) hx hb d_i5_13 (by decide) ?_
  refine newI hx hb (hAW _ wd_1_85) hK hP hD hS hA (n := 78) (N' := 78) (by decide) (by decide) (Nat.le_of_ble_eq_true rfl) (Nat.le_of_ble_eq_true rfl) (Nat.le_of_ble_eq_true rfl) d_i5_15 (fun q2 H hP hD hS => ?_)
  have hP : va_P D vwCl [(h0, .inr (5, [.ref q1, .null, .null, .null, .int 0, .null, .int 0, .null, .int 0, .int 0, .int 0, .int 0, .int 0, .null, .null, .null, .null])), (q1, .inl (cI, 78, .inl (fun _ => 0))), (q2, .inl (cI, 78, .inl (fun _ => 0)))] H := hP
  have hD : va_D A [(h0, .inr (5, [.ref q1, .null, .null, .null, .int 0, .null, .int 0, .null, .int 0, .int 0, .int 0, .int 0, .int 0, .null, .null, .null, .null])), (q1, .inl (cI, 78, .inl (fun _ => 0))), (q2, .inl (cI, 78, .inl (fun _ => 0)))] := hD
  refine va_putF (D := D) (ci := 5) (v := .ref q2) (ty := .array .int) (C := RX5) (T := TX5) (N := 17) hx hb hAW awX5 tyX5 tyX5_ok nmX5 hown hK hP hD hS 0 rfl rfl 1 (by decide) (hAW _ wd_4_13) (fun _ h9 => h9) rfl hin rfl (tyX5_ok 1 (by decide)) rfl rfl (Nat.le_of_ble_eq_true rfl) d_i5_17 (fun H locs hP hD hS => ?_)
  have hP : va_P D vwCl [(h0, .inr (5, [.ref q1, .ref q2, .null, .null, .int 0, .null, .int 0, .null, .int 0, .int 0, .int 0, .int 0, .int 0, .null, .null, .null, .null])), (q1, .inl (cI, 78, .inl (fun _ => 0))), (q2, .inl (cI, 78, .inl (fun _ => 0)))] H := hP
  have hD : va_D A [(h0, .inr (5, [.ref q1, .ref q2, .null, .null, .int 0, .null, .int 0, .null, .int 0, .int 0, .int 0, .int 0, .int 0, .null, .null, .null, .null])), (q1, .inl (cI, 78, .inl (fun _ => 0))), (q2, .inl (cI, 78, .inl (fun _ => 0)))] := hD
  refine lv_aload_n hx hb d_i5_20 rfl (lv_at hl 0 rfl) ?_
  refine lv_bipush (v := 78) hx hb d_i5_21 (by decide) ?_
  refine newI hx hb (hAW _ wd_1_85) hK hP hD hS hA (n := 78) (N' := 78) (by decide) (by decide) (Nat.le_of_ble_eq_true rfl) (Nat.le_of_ble_eq_true rfl) (Nat.le_of_ble_eq_true rfl) d_i5_23 (fun q3 H hP hD hS => ?_)
  have hP : va_P D vwCl [(h0, .inr (5, [.ref q1, .ref q2, .null, .null, .int 0, .null, .int 0, .null, .int 0, .int 0, .int 0, .int 0, .int 0, .null, .null, .null, .null])), (q1, .inl (cI, 78, .inl (fun _ => 0))), (q2, .inl (cI, 78, .inl (fun _ => 0))), (q3, .inl (cI, 78, .inl (fun _ => 0)))] H := hP
  have hD : va_D A [(h0, .inr (5, [.ref q1, .ref q2, .null, .null, .int 0, .null, .int 0, .null, .int 0, .int 0, .int 0, .int 0, .int 0, .null, .null, .null, .null])), (q1, .inl (cI, 78, .inl (fun _ => 0))), (q2, .inl (cI, 78, .inl (fun _ => 0))), (q3, .inl (cI, 78, .inl (fun _ => 0)))] := hD
  refine va_putF (D := D) (ci := 5) (v := .ref q3) (ty := .array .int) (C := RX5) (T := TX5) (N := 17) hx hb hAW awX5 tyX5 tyX5_ok nmX5 hown hK hP hD hS 0 rfl rfl 2 (by decide) (hAW _ wd_4_14) (fun _ h9 => h9) rfl hin rfl (tyX5_ok 2 (by decide)) rfl rfl (Nat.le_of_ble_eq_true rfl) d_i5_25 (fun H locs hP hD hS => ?_)
  have hP : va_P D vwCl [(h0, .inr (5, [.ref q1, .ref q2, .ref q3, .null, .int 0, .null, .int 0, .null, .int 0, .int 0, .int 0, .int 0, .int 0, .null, .null, .null, .null])), (q1, .inl (cI, 78, .inl (fun _ => 0))), (q2, .inl (cI, 78, .inl (fun _ => 0))), (q3, .inl (cI, 78, .inl (fun _ => 0)))] H := hP
  have hD : va_D A [(h0, .inr (5, [.ref q1, .ref q2, .ref q3, .null, .int 0, .null, .int 0, .null, .int 0, .int 0, .int 0, .int 0, .int 0, .null, .null, .null, .null])), (q1, .inl (cI, 78, .inl (fun _ => 0))), (q2, .inl (cI, 78, .inl (fun _ => 0))), (q3, .inl (cI, 78, .inl (fun _ => 0)))] := hD
  refine lv_aload_n hx hb d_i5_28 rfl (lv_at hl 0 rfl) ?_
  refine lv_bipush (v := 7) hx hb d_i5_29 (by decide) ?_
  refine newI hx hb (hAW _ wd_1_85) hK hP hD hS hA (n := 7) (N' := 7) (by decide) (by decide) (Nat.le_of_ble_eq_true rfl) (Nat.le_of_ble_eq_true rfl) (Nat.le_of_ble_eq_true rfl) d_i5_31 (fun q4 H hP hD hS => ?_)
  have hP : va_P D vwCl [(h0, .inr (5, [.ref q1, .ref q2, .ref q3, .null, .int 0, .null, .int 0, .null, .int 0, .int 0, .int 0, .int 0, .int 0, .null, .null, .null, .null])), (q1, .inl (cI, 78, .inl (fun _ => 0))), (q2, .inl (cI, 78, .inl (fun _ => 0))), (q3, .inl (cI, 78, .inl (fun _ => 0))), (q4, .inl (cI, 7, .inl (fun _ => 0)))] H := hP
  have hD : va_D A [(h0, .inr (5, [.ref q1, .ref q2, .ref q3, .null, .int 0, .null, .int 0, .null, .int 0, .int 0, .int 0, .int 0, .int 0, .null, .null, .null, .null])), (q1, .inl (cI, 78, .inl (fun _ => 0))), (q2, .inl (cI, 78, .inl (fun _ => 0))), (q3, .inl (cI, 78, .inl (fun _ => 0))), (q4, .inl (cI, 7, .inl (fun _ => 0)))] := hD
  refine va_putF (D := D) (ci := 5) (v := .ref q4) (ty := .array .int) (C := RX5) (T := TX5) (N := 17) hx hb hAW awX5 tyX5 tyX5_ok nmX5 hown hK hP hD hS 0 rfl rfl 3 (by decide) (hAW _ wd_4_15) (fun _ h9 => h9) rfl hin rfl (tyX5_ok 3 (by decide)) rfl rfl (Nat.le_of_ble_eq_true rfl) d_i5_33 (fun H locs hP hD hS => ?_)
  have hP : va_P D vwCl [(h0, .inr (5, [.ref q1, .ref q2, .ref q3, .ref q4, .int 0, .null, .int 0, .null, .int 0, .int 0, .int 0, .int 0, .int 0, .null, .null, .null, .null])), (q1, .inl (cI, 78, .inl (fun _ => 0))), (q2, .inl (cI, 78, .inl (fun _ => 0))), (q3, .inl (cI, 78, .inl (fun _ => 0))), (q4, .inl (cI, 7, .inl (fun _ => 0)))] H := hP
  have hD : va_D A [(h0, .inr (5, [.ref q1, .ref q2, .ref q3, .ref q4, .int 0, .null, .int 0, .null, .int 0, .int 0, .int 0, .int 0, .int 0, .null, .null, .null, .null])), (q1, .inl (cI, 78, .inl (fun _ => 0))), (q2, .inl (cI, 78, .inl (fun _ => 0))), (q3, .inl (cI, 78, .inl (fun _ => 0))), (q4, .inl (cI, 7, .inl (fun _ => 0)))] := hD
  refine lv_aload_n hx hb d_i5_36 rfl (lv_at hl 0 rfl) ?_
  refine lv_bipush (v := 8) hx hb d_i5_37 (by decide) ?_
  refine newI hx hb (hAW _ wd_1_85) hK hP hD hS hA (n := 8) (N' := 8) (by decide) (by decide) (Nat.le_of_ble_eq_true rfl) (Nat.le_of_ble_eq_true rfl) (Nat.le_of_ble_eq_true rfl) d_i5_39 (fun q5 H hP hD hS => ?_)
  have hP : va_P D vwCl [(h0, .inr (5, [.ref q1, .ref q2, .ref q3, .ref q4, .int 0, .null, .int 0, .null, .int 0, .int 0, .int 0, .int 0, .int 0, .null, .null, .null, .null])), (q1, .inl (cI, 78, .inl (fun _ => 0))), (q2, .inl (cI, 78, .inl (fun _ => 0))), (q3, .inl (cI, 78, .inl (fun _ => 0))), (q4, .inl (cI, 7, .inl (fun _ => 0))), (q5, .inl (cI, 8, .inl (fun _ => 0)))] H := hP
  have hD : va_D A [(h0, .inr (5, [.ref q1, .ref q2, .ref q3, .ref q4, .int 0, .null, .int 0, .null, .int 0, .int 0, .int 0, .int 0, .int 0, .null, .null, .null, .null])), (q1, .inl (cI, 78, .inl (fun _ => 0))), (q2, .inl (cI, 78, .inl (fun _ => 0))), (q3, .inl (cI, 78, .inl (fun _ => 0))), (q4, .inl (cI, 7, .inl (fun _ => 0))), (q5, .inl (cI, 8, .inl (fun _ => 0)))] := hD
  refine va_putF (D := D) (ci := 5) (v := .ref q5) (ty := .array .int) (C := RX5) (T := TX5) (N := 17) hx hb hAW awX5 tyX5 tyX5_ok nmX5 hown hK hP hD hS 0 rfl rfl 5 (by decide) (hAW _ wd_4_17) (fun _ h9 => h9) rfl hin rfl (tyX5_ok 5 (by decide)) rfl rfl (Nat.le_of_ble_eq_true rfl) d_i5_41 (fun H locs hP hD hS => ?_)
  have hP : va_P D vwCl [(h0, .inr (5, [.ref q1, .ref q2, .ref q3, .ref q4, .int 0, .ref q5, .int 0, .null, .int 0, .int 0, .int 0, .int 0, .int 0, .null, .null, .null, .null])), (q1, .inl (cI, 78, .inl (fun _ => 0))), (q2, .inl (cI, 78, .inl (fun _ => 0))), (q3, .inl (cI, 78, .inl (fun _ => 0))), (q4, .inl (cI, 7, .inl (fun _ => 0))), (q5, .inl (cI, 8, .inl (fun _ => 0)))] H := hP
  have hD : va_D A [(h0, .inr (5, [.ref q1, .ref q2, .ref q3, .ref q4, .int 0, .ref q5, .int 0, .null, .int 0, .int 0, .int 0, .int 0, .int 0, .null, .null, .null, .null])), (q1, .inl (cI, 78, .inl (fun _ => 0))), (q2, .inl (cI, 78, .inl (fun _ => 0))), (q3, .inl (cI, 78, .inl (fun _ => 0))), (q4, .inl (cI, 7, .inl (fun _ => 0))), (q5, .inl (cI, 8, .inl (fun _ => 0)))] := hD
  refine lv_aload_n hx hb d_i5_44 rfl (lv_at hl 0 rfl) ?_
  refine lv_bipush (v := 120) hx hb d_i5_45 (by decide) ?_
  refine newI hx hb (hAW _ wd_1_85) hK hP hD hS hA (n := 120) (N' := 120) (by decide) (by decide) (Nat.le_of_ble_eq_true rfl) (Nat.le_of_ble_eq_true rfl) (Nat.le_of_ble_eq_true rfl) d_i5_47 (fun q6 H hP hD hS => ?_)
  have hP : va_P D vwCl [(h0, .inr (5, [.ref q1, .ref q2, .ref q3, .ref q4, .int 0, .ref q5, .int 0, .null, .int 0, .int 0, .int 0, .int 0, .int 0, .null, .null, .null, .null])), (q1, .inl (cI, 78, .inl (fun _ => 0))), (q2, .inl (cI, 78, .inl (fun _ => 0))), (q3, .inl (cI, 78, .inl (fun _ => 0))), (q4, .inl (cI, 7, .inl (fun _ => 0))), (q5, .inl (cI, 8, .inl (fun _ => 0))), (q6, .inl (cI, 120, .inl (fun _ => 0)))] H := hP
  have hD : va_D A [(h0, .inr (5, [.ref q1, .ref q2, .ref q3, .ref q4, .int 0, .ref q5, .int 0, .null, .int 0, .int 0, .int 0, .int 0, .int 0, .null, .null, .null, .null])), (q1, .inl (cI, 78, .inl (fun _ => 0))), (q2, .inl (cI, 78, .inl (fun _ => 0))), (q3, .inl (cI, 78, .inl (fun _ => 0))), (q4, .inl (cI, 7, .inl (fun _ => 0))), (q5, .inl (cI, 8, .inl (fun _ => 0))), (q6, .inl (cI, 120, .inl (fun _ => 0)))] := hD
  refine va_putF (D := D) (ci := 5) (v := .ref q6) (ty := .array .int) (C := RX5) (T := TX5) (N := 17) hx hb hAW awX5 tyX5 tyX5_ok nmX5 hown hK hP hD hS 0 rfl rfl 7 (by decide) (hAW _ wd_4_19) (fun _ h9 => h9) rfl hin rfl (tyX5_ok 7 (by decide)) rfl rfl (Nat.le_of_ble_eq_true rfl) d_i5_49 (fun H locs hP hD hS => ?_)
  have hP : va_P D vwCl [(h0, .inr (5, [.ref q1, .ref q2, .ref q3, .ref q4, .int 0, .ref q5, .int 0, .ref q6, .int 0, .int 0, .int 0, .int 0, .int 0, .null, .null, .null, .null])), (q1, .inl (cI, 78, .inl (fun _ => 0))), (q2, .inl (cI, 78, .inl (fun _ => 0))), (q3, .inl (cI, 78, .inl (fun _ => 0))), (q4, .inl (cI, 7, .inl (fun _ => 0))), (q5, .inl (cI, 8, .inl (fun _ => 0))), (q6, .inl (cI, 120, .inl (fun _ => 0)))] H := hP
  have hD : va_D A [(h0, .inr (5, [.ref q1, .ref q2, .ref q3, .ref q4, .int 0, .ref q5, .int 0, .ref q6, .int 0, .int 0, .int 0, .int 0, .int 0, .null, .null, .null, .null])), (q1, .inl (cI, 78, .inl (fun _ => 0))), (q2, .inl (cI, 78, .inl (fun _ => 0))), (q3, .inl (cI, 78, .inl (fun _ => 0))), (q4, .inl (cI, 7, .inl (fun _ => 0))), (q5, .inl (cI, 8, .inl (fun _ => 0))), (q6, .inl (cI, 120, .inl (fun _ => 0)))] := hD
  refine lv_aload_n hx hb d_i5_52 rfl (lv_at hl 0 rfl) ?_
  refine lv_iconst (v := 4) hx hb d_i5_53 (by decide) ?_
  refine newI hx hb (hAW _ wd_1_85) hK hP hD hS hA (n := 4) (N' := 4) (by decide) (by decide) (Nat.le_of_ble_eq_true rfl) (Nat.le_of_ble_eq_true rfl) (Nat.le_of_ble_eq_true rfl) d_i5_54 (fun q7 H hP hD hS => ?_)
  have hP : va_P D vwCl [(h0, .inr (5, [.ref q1, .ref q2, .ref q3, .ref q4, .int 0, .ref q5, .int 0, .ref q6, .int 0, .int 0, .int 0, .int 0, .int 0, .null, .null, .null, .null])), (q1, .inl (cI, 78, .inl (fun _ => 0))), (q2, .inl (cI, 78, .inl (fun _ => 0))), (q3, .inl (cI, 78, .inl (fun _ => 0))), (q4, .inl (cI, 7, .inl (fun _ => 0))), (q5, .inl (cI, 8, .inl (fun _ => 0))), (q6, .inl (cI, 120, .inl (fun _ => 0))), (q7, .inl (cI, 4, .inl (fun _ => 0)))] H := hP
  have hD : va_D A [(h0, .inr (5, [.ref q1, .ref q2, .ref q3, .ref q4, .int 0, .ref q5, .int 0, .ref q6, .int 0, .int 0, .int 0, .int 0, .int 0, .null, .null, .null, .null])), (q1, .inl (cI, 78, .inl (fun _ => 0))), (q2, .inl (cI, 78, .inl (fun _ => 0))), (q3, .inl (cI, 78, .inl (fun _ => 0))), (q4, .inl (cI, 7, .inl (fun _ => 0))), (q5, .inl (cI, 8, .inl (fun _ => 0))), (q6, .inl (cI, 120, .inl (fun _ => 0))), (q7, .inl (cI, 4, .inl (fun _ => 0)))] := hD
  refine va_putF (D := D) (ci := 5) (v := .ref q7) (ty := .array .int) (C := RX5) (T := TX5) (N := 17) hx hb hAW awX5 tyX5 tyX5_ok nmX5 hown hK hP hD hS 0 rfl rfl 13 (by decide) (hAW _ wd_4_25) (fun _ h9 => h9) rfl hin rfl (tyX5_ok 13 (by decide)) rfl rfl (Nat.le_of_ble_eq_true rfl) d_i5_56 (fun H locs hP hD hS => ?_)
  have hP : va_P D vwCl [(h0, .inr (5, [.ref q1, .ref q2, .ref q3, .ref q4, .int 0, .ref q5, .int 0, .ref q6, .int 0, .int 0, .int 0, .int 0, .int 0, .ref q7, .null, .null, .null])), (q1, .inl (cI, 78, .inl (fun _ => 0))), (q2, .inl (cI, 78, .inl (fun _ => 0))), (q3, .inl (cI, 78, .inl (fun _ => 0))), (q4, .inl (cI, 7, .inl (fun _ => 0))), (q5, .inl (cI, 8, .inl (fun _ => 0))), (q6, .inl (cI, 120, .inl (fun _ => 0))), (q7, .inl (cI, 4, .inl (fun _ => 0)))] H := hP
  have hD : va_D A [(h0, .inr (5, [.ref q1, .ref q2, .ref q3, .ref q4, .int 0, .ref q5, .int 0, .ref q6, .int 0, .int 0, .int 0, .int 0, .int 0, .ref q7, .null, .null, .null])), (q1, .inl (cI, 78, .inl (fun _ => 0))), (q2, .inl (cI, 78, .inl (fun _ => 0))), (q3, .inl (cI, 78, .inl (fun _ => 0))), (q4, .inl (cI, 7, .inl (fun _ => 0))), (q5, .inl (cI, 8, .inl (fun _ => 0))), (q6, .inl (cI, 120, .inl (fun _ => 0))), (q7, .inl (cI, 4, .inl (fun _ => 0)))] := hD
  refine lv_aload_n hx hb d_i5_59 rfl (lv_at hl 0 rfl) ?_
  refine lv_iconst (v := 4) hx hb d_i5_60 (by decide) ?_
  refine newI hx hb (hAW _ wd_1_85) hK hP hD hS hA (n := 4) (N' := 4) (by decide) (by decide) (Nat.le_of_ble_eq_true rfl) (Nat.le_of_ble_eq_true rfl) (Nat.le_of_ble_eq_true rfl) d_i5_61 (fun q8 H hP hD hS => ?_)
  have hP : va_P D vwCl [(h0, .inr (5, [.ref q1, .ref q2, .ref q3, .ref q4, .int 0, .ref q5, .int 0, .ref q6, .int 0, .int 0, .int 0, .int 0, .int 0, .ref q7, .null, .null, .null])), (q1, .inl (cI, 78, .inl (fun _ => 0))), (q2, .inl (cI, 78, .inl (fun _ => 0))), (q3, .inl (cI, 78, .inl (fun _ => 0))), (q4, .inl (cI, 7, .inl (fun _ => 0))), (q5, .inl (cI, 8, .inl (fun _ => 0))), (q6, .inl (cI, 120, .inl (fun _ => 0))), (q7, .inl (cI, 4, .inl (fun _ => 0))), (q8, .inl (cI, 4, .inl (fun _ => 0)))] H := hP
  have hD : va_D A [(h0, .inr (5, [.ref q1, .ref q2, .ref q3, .ref q4, .int 0, .ref q5, .int 0, .ref q6, .int 0, .int 0, .int 0, .int 0, .int 0, .ref q7, .null, .null, .null])), (q1, .inl (cI, 78, .inl (fun _ => 0))), (q2, .inl (cI, 78, .inl (fun _ => 0))), (q3, .inl (cI, 78, .inl (fun _ => 0))), (q4, .inl (cI, 7, .inl (fun _ => 0))), (q5, .inl (cI, 8, .inl (fun _ => 0))), (q6, .inl (cI, 120, .inl (fun _ => 0))), (q7, .inl (cI, 4, .inl (fun _ => 0))), (q8, .inl (cI, 4, .inl (fun _ => 0)))] := hD
  refine va_putF (D := D) (ci := 5) (v := .ref q8) (ty := .array .int) (C := RX5) (T := TX5) (N := 17) hx hb hAW awX5 tyX5 tyX5_ok nmX5 hown hK hP hD hS 0 rfl rfl 14 (by decide) (hAW _ wd_4_26) (fun _ h9 => h9) rfl hin rfl (tyX5_ok 14 (by decide)) rfl rfl (Nat.le_of_ble_eq_true rfl) d_i5_63 (fun H locs hP hD hS => ?_)
  have hP : va_P D vwCl [(h0, .inr (5, [.ref q1, .ref q2, .ref q3, .ref q4, .int 0, .ref q5, .int 0, .ref q6, .int 0, .int 0, .int 0, .int 0, .int 0, .ref q7, .ref q8, .null, .null])), (q1, .inl (cI, 78, .inl (fun _ => 0))), (q2, .inl (cI, 78, .inl (fun _ => 0))), (q3, .inl (cI, 78, .inl (fun _ => 0))), (q4, .inl (cI, 7, .inl (fun _ => 0))), (q5, .inl (cI, 8, .inl (fun _ => 0))), (q6, .inl (cI, 120, .inl (fun _ => 0))), (q7, .inl (cI, 4, .inl (fun _ => 0))), (q8, .inl (cI, 4, .inl (fun _ => 0)))] H := hP
  have hD : va_D A [(h0, .inr (5, [.ref q1, .ref q2, .ref q3, .ref q4, .int 0, .ref q5, .int 0, .ref q6, .int 0, .int 0, .int 0, .int 0, .int 0, .ref q7, .ref q8, .null, .null])), (q1, .inl (cI, 78, .inl (fun _ => 0))), (q2, .inl (cI, 78, .inl (fun _ => 0))), (q3, .inl (cI, 78, .inl (fun _ => 0))), (q4, .inl (cI, 7, .inl (fun _ => 0))), (q5, .inl (cI, 8, .inl (fun _ => 0))), (q6, .inl (cI, 120, .inl (fun _ => 0))), (q7, .inl (cI, 4, .inl (fun _ => 0))), (q8, .inl (cI, 4, .inl (fun _ => 0)))] := hD
  refine lv_aload_n hx hb d_i5_66 rfl (lv_at hl 0 rfl) ?_
  refine lv_sipush (v := 160) hx hb d_i5_67 (by decide) ?_
  refine newI hx hb (hAW _ wd_1_85) hK hP hD hS hA (n := 160) (N' := 160) (by decide) (by decide) (Nat.le_of_ble_eq_true rfl) (Nat.le_of_ble_eq_true rfl) (Nat.le_of_ble_eq_true rfl) d_i5_70 (fun q9 H hP hD hS => ?_)
  have hP : va_P D vwCl [(h0, .inr (5, [.ref q1, .ref q2, .ref q3, .ref q4, .int 0, .ref q5, .int 0, .ref q6, .int 0, .int 0, .int 0, .int 0, .int 0, .ref q7, .ref q8, .null, .null])), (q1, .inl (cI, 78, .inl (fun _ => 0))), (q2, .inl (cI, 78, .inl (fun _ => 0))), (q3, .inl (cI, 78, .inl (fun _ => 0))), (q4, .inl (cI, 7, .inl (fun _ => 0))), (q5, .inl (cI, 8, .inl (fun _ => 0))), (q6, .inl (cI, 120, .inl (fun _ => 0))), (q7, .inl (cI, 4, .inl (fun _ => 0))), (q8, .inl (cI, 4, .inl (fun _ => 0))), (q9, .inl (cI, 160, .inl (fun _ => 0)))] H := hP
  have hD : va_D A [(h0, .inr (5, [.ref q1, .ref q2, .ref q3, .ref q4, .int 0, .ref q5, .int 0, .ref q6, .int 0, .int 0, .int 0, .int 0, .int 0, .ref q7, .ref q8, .null, .null])), (q1, .inl (cI, 78, .inl (fun _ => 0))), (q2, .inl (cI, 78, .inl (fun _ => 0))), (q3, .inl (cI, 78, .inl (fun _ => 0))), (q4, .inl (cI, 7, .inl (fun _ => 0))), (q5, .inl (cI, 8, .inl (fun _ => 0))), (q6, .inl (cI, 120, .inl (fun _ => 0))), (q7, .inl (cI, 4, .inl (fun _ => 0))), (q8, .inl (cI, 4, .inl (fun _ => 0))), (q9, .inl (cI, 160, .inl (fun _ => 0)))] := hD
  refine va_putF (D := D) (ci := 5) (v := .ref q9) (ty := .array .int) (C := RX5) (T := TX5) (N := 17) hx hb hAW awX5 tyX5 tyX5_ok nmX5 hown hK hP hD hS 0 rfl rfl 15 (by decide) (hAW _ wd_4_27) (fun _ h9 => h9) rfl hin rfl (tyX5_ok 15 (by decide)) rfl rfl (Nat.le_of_ble_eq_true rfl) d_i5_72 (fun H locs hP hD hS => ?_)
  have hP : va_P D vwCl [(h0, .inr (5, [.ref q1, .ref q2, .ref q3, .ref q4, .int 0, .ref q5, .int 0, .ref q6, .int 0, .int 0, .int 0, .int 0, .int 0, .ref q7, .ref q8, .ref q9, .null])), (q1, .inl (cI, 78, .inl (fun _ => 0))), (q2, .inl (cI, 78, .inl (fun _ => 0))), (q3, .inl (cI, 78, .inl (fun _ => 0))), (q4, .inl (cI, 7, .inl (fun _ => 0))), (q5, .inl (cI, 8, .inl (fun _ => 0))), (q6, .inl (cI, 120, .inl (fun _ => 0))), (q7, .inl (cI, 4, .inl (fun _ => 0))), (q8, .inl (cI, 4, .inl (fun _ => 0))), (q9, .inl (cI, 160, .inl (fun _ => 0)))] H := hP
  have hD : va_D A [(h0, .inr (5, [.ref q1, .ref q2, .ref q3, .ref q4, .int 0, .ref q5, .int 0, .ref q6, .int 0, .int 0, .int 0, .int 0, .int 0, .ref q7, .ref q8, .ref q9, .null])), (q1, .inl (cI, 78, .inl (fun _ => 0))), (q2, .inl (cI, 78, .inl (fun _ => 0))), (q3, .inl (cI, 78, .inl (fun _ => 0))), (q4, .inl (cI, 7, .inl (fun _ => 0))), (q5, .inl (cI, 8, .inl (fun _ => 0))), (q6, .inl (cI, 120, .inl (fun _ => 0))), (q7, .inl (cI, 4, .inl (fun _ => 0))), (q8, .inl (cI, 4, .inl (fun _ => 0))), (q9, .inl (cI, 160, .inl (fun _ => 0)))] := hD
  refine lv_aload_n hx hb d_i5_75 rfl (lv_at hl 0 rfl) ?_
  refine lv_bipush (v := 40) hx hb d_i5_76 (by decide) ?_
  refine newI hx hb (hAW _ wd_1_85) hK hP hD hS hA (n := 40) (N' := 40) (by decide) (by decide) (Nat.le_of_ble_eq_true rfl) (Nat.le_of_ble_eq_true rfl) (Nat.le_of_ble_eq_true rfl) d_i5_78 (fun q10 H hP hD hS => ?_)
  have hP : va_P D vwCl [(h0, .inr (5, [.ref q1, .ref q2, .ref q3, .ref q4, .int 0, .ref q5, .int 0, .ref q6, .int 0, .int 0, .int 0, .int 0, .int 0, .ref q7, .ref q8, .ref q9, .null])), (q1, .inl (cI, 78, .inl (fun _ => 0))), (q2, .inl (cI, 78, .inl (fun _ => 0))), (q3, .inl (cI, 78, .inl (fun _ => 0))), (q4, .inl (cI, 7, .inl (fun _ => 0))), (q5, .inl (cI, 8, .inl (fun _ => 0))), (q6, .inl (cI, 120, .inl (fun _ => 0))), (q7, .inl (cI, 4, .inl (fun _ => 0))), (q8, .inl (cI, 4, .inl (fun _ => 0))), (q9, .inl (cI, 160, .inl (fun _ => 0))), (q10, .inl (cI, 40, .inl (fun _ => 0)))] H := hP
  have hD : va_D A [(h0, .inr (5, [.ref q1, .ref q2, .ref q3, .ref q4, .int 0, .ref q5, .int 0, .ref q6, .int 0, .int 0, .int 0, .int 0, .int 0, .ref q7, .ref q8, .ref q9, .null])), (q1, .inl (cI, 78, .inl (fun _ => 0))), (q2, .inl (cI, 78, .inl (fun _ => 0))), (q3, .inl (cI, 78, .inl (fun _ => 0))), (q4, .inl (cI, 7, .inl (fun _ => 0))), (q5, .inl (cI, 8, .inl (fun _ => 0))), (q6, .inl (cI, 120, .inl (fun _ => 0))), (q7, .inl (cI, 4, .inl (fun _ => 0))), (q8, .inl (cI, 4, .inl (fun _ => 0))), (q9, .inl (cI, 160, .inl (fun _ => 0))), (q10, .inl (cI, 40, .inl (fun _ => 0)))] := hD
  refine va_putF (D := D) (ci := 5) (v := .ref q10) (ty := .array .int) (C := RX5) (T := TX5) (N := 17) hx hb hAW awX5 tyX5 tyX5_ok nmX5 hown hK hP hD hS 0 rfl rfl 16 (by decide) (hAW _ wd_4_28) (fun _ h9 => h9) rfl hin rfl (tyX5_ok 16 (by decide)) rfl rfl (Nat.le_of_ble_eq_true rfl) d_i5_80 (fun H locs hP hD hS => ?_)
  have hP : va_P D vwCl [(h0, .inr (5, [.ref q1, .ref q2, .ref q3, .ref q4, .int 0, .ref q5, .int 0, .ref q6, .int 0, .int 0, .int 0, .int 0, .int 0, .ref q7, .ref q8, .ref q9, .ref q10])), (q1, .inl (cI, 78, .inl (fun _ => 0))), (q2, .inl (cI, 78, .inl (fun _ => 0))), (q3, .inl (cI, 78, .inl (fun _ => 0))), (q4, .inl (cI, 7, .inl (fun _ => 0))), (q5, .inl (cI, 8, .inl (fun _ => 0))), (q6, .inl (cI, 120, .inl (fun _ => 0))), (q7, .inl (cI, 4, .inl (fun _ => 0))), (q8, .inl (cI, 4, .inl (fun _ => 0))), (q9, .inl (cI, 160, .inl (fun _ => 0))), (q10, .inl (cI, 40, .inl (fun _ => 0)))] H := hP
  have hD : va_D A [(h0, .inr (5, [.ref q1, .ref q2, .ref q3, .ref q4, .int 0, .ref q5, .int 0, .ref q6, .int 0, .int 0, .int 0, .int 0, .int 0, .ref q7, .ref q8, .ref q9, .ref q10])), (q1, .inl (cI, 78, .inl (fun _ => 0))), (q2, .inl (cI, 78, .inl (fun _ => 0))), (q3, .inl (cI, 78, .inl (fun _ => 0))), (q4, .inl (cI, 7, .inl (fun _ => 0))), (q5, .inl (cI, 8, .inl (fun _ => 0))), (q6, .inl (cI, 120, .inl (fun _ => 0))), (q7, .inl (cI, 4, .inl (fun _ => 0))), (q8, .inl (cI, 4, .inl (fun _ => 0))), (q9, .inl (cI, 160, .inl (fun _ => 0))), (q10, .inl (cI, 40, .inl (fun _ => 0)))] := hD
  obtain ⟨u, hu⟩ : ∃ u : Nat → Nat, u = fun k => ([q1, q2, q3, q4, q5, q6, q7, q8, q9, q10] : List Nat).getD k 0 := ⟨_, rfl⟩
  obtain rfl : u 0 = q1 := by rw [hu]; rfl
  obtain rfl : u 1 = q2 := by rw [hu]; rfl
  obtain rfl : u 2 = q3 := by rw [hu]; rfl
  obtain rfl : u 3 = q4 := by rw [hu]; rfl
  obtain rfl : u 4 = q5 := by rw [hu]; rfl
  obtain rfl : u 5 = q6 := by rw [hu]; rfl
  obtain rfl : u 6 = q7 := by rw [hu]; rfl
  obtain rfl : u 7 = q8 := by rw [hu]; rfl
  obtain rfl : u 8 = q9 := by rw [hu]; rfl
  obtain rfl : u 9 = q10 := by rw [hu]; rfl
  have hP : va_P D vwCl (wMd0 cI (fun _ => 0) h0 u) H := hP
  have hD : va_D A (wMd0 cI (fun _ => 0) h0 u) := hD
  refine lv_aload_n hx hb d_i5_83 rfl (lv_at hl 0 rfl) ?_
  refine va_get (D := D) (ci := 5) (v := .ref (u 0)) (C := RX5) (T := TX5) (N := 17) hx hb hAW awX5 hown hK hP 0 rfl rfl 0 (by decide) (hAW _ wd_4_12) (fun _ h9 => h9) rfl d_i5_84 ?_
  refine lv_iconst (v := nI 3) hx hb d_i5_87 (by decide) ?_
  refine lv_iconst (v := 1) hx hb d_i5_88 (by decide) ?_
  refine va_iast hx hb hK hP hD hS 1 0 rfl rfl (vp_in_nI (by omega) (by omega)) d_i5_89 (fun H locs hP hD hS => ?_)
  rw [nI_clamp (by omega), fM_00] at hP hD
  have hP : va_P D vwCl (wMd0 cI (fM 0 0) h0 u) H := hP
  have hD : va_D A (wMd0 cI (fM 0 0) h0 u) := hD
  refine lv_iconst (v := nI 0) hx hb d_i5_90 (by decide) ?_
  refine lv_istore_n (lv' := [(1, .int (nI 0)), (0, .ref h0)]) hx hb d_i5_91 rfl hl (by decide) rfl (fun ls hl => ?_)
  refine W.widen (k := 10) (n := 577) (Nat.le_of_ble_eq_true rfl) (Nat.le_of_ble_eq_true rfl) ?_
  clear hu
  have L2 : ∀ (d k : Nat), k + d = 10 → ∀ (H : Heap) (locs : List Loc) (ls : Array Slot), va_P D vwCl (wMd0 cI (fM 12 k) h0 u) H → va_D A (wMd0 cI (fM 12 k) h0 u) → va_S A s.heap H locs → lv_has ls 2 [(1, .int (nI k)), (0, .ref h0)] → W p l e (headSpec (wsY yX5_init cX5_init 2) ({ frames := 1, cells := 10, slots := 577, locals := 12 })).room s m ([.ref h0] : List Value).toArray below meth c H locs 10 577 (MQ below (va_Qv (fun _ : Nat → Nat => True) (fun u t => Bi D cI cS A (wMd0 cI (fM 12 10) h0 u) t) A) ([.ref h0] : List Value).toArray s 10 577 A) (F0 m 115 ls []) := by
    intro d
    induction d with
    | zero =>
      intro k hk H locs ls hP hD hS hl
      have hk : k = 10 := by omega
      subst hk
      refine lv_iload_n hx hb d_i5_115 rfl (lv_at hl 0 rfl) ?_
      refine lv_bipush (v := nI 10) hx hb d_i5_116 (by decide) ?_
      refine lv_icmp_ge (tgt := 137) hx hb d_i5_118 (by decide) (fun _ => ?_) (fun h => absurd (nI_le (Nat.le_refl _) (by omega)) h)
      exact W.vret hx hb hr (fun t ht hW => ⟨⟨u, rfl, trivial, by rw [ht]; exact hP, va_K.moved hW.alike hK, hD⟩, hS.F ht⟩) hS.2.2 d_i5_137
    | succ d ih =>
      intro k hk H locs ls hP hD hS hl
      refine lv_iload_n hx hb d_i5_115 rfl (lv_at hl 0 rfl) ?_
      refine lv_bipush (v := nI 10) hx hb d_i5_116 (by decide) ?_
      refine lv_icmp_ge (tgt := 137) hx hb d_i5_118 (by decide) (fun h => absurd h (nI_ge (by omega) (by omega))) (fun _ => ?_)
      refine lv_aload_n hx hb d_i5_121 rfl (lv_at hl 1 rfl) ?_
      refine va_get (D := D) (ci := 5) (v := .ref (u 0)) (C := RX5) (T := TX5) (N := 17) hx hb hAW awX5 hown hK hP 0 rfl rfl 0 (by decide) (hAW _ wd_4_12) (fun _ h9 => h9) rfl d_i5_122 ?_
      refine lv_bipush (v := nI 68) hx hb d_i5_125 (by decide) ?_
      refine lv_iload_n hx hb d_i5_127 rfl (lv_at hl 0 rfl) ?_
      refine lv_iadd hx hb d_i5_128 ?_
      refine lv_iconst (v := (-1)) hx hb d_i5_129 (by decide) ?_
      refine va_iast hx hb hK hP hD hS 1 0 rfl rfl (by rw [nI_add]; exact vp_in_nI (by omega) (by omega)) d_i5_130 (fun H locs hP hD hS => ?_)
      rw [nI_add, nI_clamp (by omega), fM_j] at hP hD
      refine lv_iinc (v := nI (k + 1)) (lv' := [(1, .int (nI (k + 1))), (0, .ref h0)]) hx hb d_i5_131 hl (k := 0) rfl (nI_1 k) (by decide) rfl (fun ls hl => ?_)
      refine lv_goto (tgt := 115) hx hb d_i5_134 (by decide) ?_
      exact ih (k + 1) (by omega) _ _ ls hP hD hS hl
  have L1 : ∀ (d k : Nat), k + d = 12 → ∀ (H : Heap) (locs : List Loc) (ls : Array Slot), va_P D vwCl (wMd0 cI (fM k 0) h0 u) H → va_D A (wMd0 cI (fM k 0) h0 u) → va_S A s.heap H locs → lv_has ls 2 [(1, .int (nI k)), (0, .ref h0)] → W p l e (headSpec (wsY yX5_init cX5_init 2) ({ frames := 1, cells := 10, slots := 577, locals := 12 })).room s m ([.ref h0] : List Value).toArray below meth c H locs 10 577 (MQ below (va_Qv (fun _ : Nat → Nat => True) (fun u t => Bi D cI cS A (wMd0 cI (fM 12 10) h0 u) t) A) ([.ref h0] : List Value).toArray s 10 577 A) (F0 m 92 ls []) := by
    intro d
    induction d with
    | zero =>
      intro k hk H locs ls hP hD hS hl
      have hk : k = 12 := by omega
      subst hk
      refine lv_iload_n hx hb d_i5_92 rfl (lv_at hl 0 rfl) ?_
      refine lv_bipush (v := nI 12) hx hb d_i5_93 (by decide) ?_
      refine lv_icmp_ge (tgt := 113) hx hb d_i5_95 (by decide) (fun _ => ?_) (fun h => absurd (nI_le (Nat.le_refl _) (by omega)) h)
      refine lv_iconst (v := nI 0) hx hb d_i5_113 (by decide) ?_
      refine lv_istore_n (lv' := [(1, .int (nI 0)), (0, .ref h0)]) hx hb d_i5_114 rfl hl (by decide) rfl (fun ls hl => ?_)
      exact L2 10 0 (by omega) _ _ ls hP hD hS hl
    | succ d ih =>
      intro k hk H locs ls hP hD hS hl
      refine lv_iload_n hx hb d_i5_92 rfl (lv_at hl 0 rfl) ?_
      refine lv_bipush (v := nI 12) hx hb d_i5_93 (by decide) ?_
      refine lv_icmp_ge (tgt := 113) hx hb d_i5_95 (by decide) (fun h => absurd h (nI_ge (by omega) (by omega))) (fun _ => ?_)
      refine lv_aload_n hx hb d_i5_98 rfl (lv_at hl 1 rfl) ?_
      refine va_get (D := D) (ci := 5) (v := .ref (u 0)) (C := RX5) (T := TX5) (N := 17) hx hb hAW awX5 hown hK hP 0 rfl rfl 0 (by decide) (hAW _ wd_4_12) (fun _ h9 => h9) rfl d_i5_99 ?_
      refine lv_iconst (v := nI 4) hx hb d_i5_102 (by decide) ?_
      refine lv_iload_n hx hb d_i5_103 rfl (lv_at hl 0 rfl) ?_
      refine lv_iadd hx hb d_i5_104 ?_
      refine lv_iconst (v := 3) hx hb d_i5_105 (by decide) ?_
      refine va_iast hx hb hK hP hD hS 1 0 rfl rfl (by rw [nI_add]; exact vp_in_nI (by omega) (by omega)) d_i5_106 (fun H locs hP hD hS => ?_)
      rw [nI_add, nI_clamp (by omega), fM_i] at hP hD
      refine lv_iinc (v := nI (k + 1)) (lv' := [(1, .int (nI (k + 1))), (0, .ref h0)]) hx hb d_i5_107 hl (k := 0) rfl (nI_1 k) (by decide) rfl (fun ls hl => ?_)
      refine lv_goto (tgt := 92) hx hb d_i5_110 (by decide) ?_
      exact ih (k + 1) (by omega) _ _ ls hP hD hS hl
  exact L1 12 0 (by omega) _ _ ls hP hD hS hl
