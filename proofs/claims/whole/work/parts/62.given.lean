/-! WHAT THE START GIVES: the statics, the String constants; the first ints of the world -/
theorem tb_1 {w : Cond} (i : Nat) (h : tables_1_1[i]? = some w) : w ∈ lw_tbl := List.mem_append_right _ (List.mem_append_left _ (List.mem_of_getElem? h))
theorem tb_2 {w : Cond} (i : Nat) (h : tables_1_2[i]? = some w) : w ∈ lw_tbl := List.mem_append_right _ (List.mem_append_right _ (List.mem_append_left _ (List.mem_of_getElem? h)))
theorem tb_3 {w : Cond} (i : Nat) (h : tables_1_3[i]? = some w) : w ∈ lw_tbl := List.mem_append_right _ (List.mem_append_right _ (List.mem_append_right _ (List.mem_append_left _ (List.mem_of_getElem? h))))
theorem tb_4 {w : Cond} (i : Nat) (h : tables_1_4[i]? = some w) : w ∈ lw_tbl := List.mem_append_right _ (List.mem_append_right _ (List.mem_append_right _ (List.mem_append_right _ (List.mem_append_left _ (List.mem_of_getElem? h)))))
theorem tb_5 {w : Cond} (i : Nat) (h : tables_1_5[i]? = some w) : w ∈ lw_tbl := List.mem_append_right _ (List.mem_append_right _ (List.mem_append_right _ (List.mem_append_right _ (List.mem_append_right _ (List.mem_append_left _ (List.mem_of_getElem? h))))))
theorem tb_6 {w : Cond} (i : Nat) (h : tables_1_6[i]? = some w) : w ∈ lw_tbl := List.mem_append_right _ (List.mem_append_right _ (List.mem_append_right _ (List.mem_append_right _ (List.mem_append_right _ (List.mem_append_right _ (List.mem_of_getElem? h))))))
abbrev gvn : Cond := Jvm.Cond.and given_1 narrow_1
theorem va_Xof {args : Array Value} {s : State} {tm : Term} {N : Nat} {f : Nat → Int32} (hN : N < 2 ^ 31) (harr : (Cond.arrayOf tm .int).before args s = true) (hlen : (Term.length tm).eval args s none [] s = some (.int (Int32.ofNat N))) (hel : ∀ j : Nat, j < N → (Term.elem tm (.int (Int32.ofNat j))).eval args s none [] s = some (.int (f j))) : ∃ t : Nat, tm.eval args s none [] s = some (.ref t) ∧ va_X t N f s s.heap ∧ t < s.heap.size := by
  obtain ⟨t, ht, cell, h1, h2, h3, h4, h5, h6, h7⟩ := va_Tof (f := fun j => .int (f j)) (A := fun _ => False) hN harr hlen hel (fun _ _ h => h)
  obtain ⟨t2, cell2, g1, g2, g3⟩ := Term.length_spec hlen
  have hsz : cell2.slots.size < 2 ^ 31 := by
    by_cases hlt : cell2.slots.size < 2147483648
    · exact hlt
    · simp only [Term.eval, g1, g2, Option.bind_eq_bind, Option.bind_some] at hlen
      simp [hlt] at hlen
  cases ht.symm.trans g1
  obtain ⟨e1, -⟩ := State.arrayAt?_spec g2
  cases h1.symm.trans e1
  have hz : cell.slots.size = N := by
    have e2 := congrArg Int32.toNatClampNeg h5
    have e3 : (Int32.ofNat cell.slots.size).toNatClampNeg = cell.slots.size := Int32.toNatClampNeg_ofNat_of_lt hsz
    have e4 : (Int32.ofNat N).toNatClampNeg = N := Int32.toNatClampNeg_ofNat_of_lt hN
    exact e3.symm.trans (e2.trans e4)
  exact ⟨t, ht, ⟨cell, h1, h2, h3, hz, h6⟩, (Array.getElem?_eq_some_iff.mp h1).1⟩
theorem gv_row : ∀ n, n < 2 → (Cond.arrayOf (.static "MovingMarket" (gsN (56 + n)) "[I") .int) ∈ flatC gvn ∧ (Cond.eq (.length (.static "MovingMarket" (gsN (56 + n)) "[I")) (.int (Int32.ofNat 7))) ∈ flatC gvn ∧ ∀ j, j < 7 → (Cond.eq (.elem (.static "MovingMarket" (gsN (56 + n)) "[I") (.int (Int32.ofNat j))) (.int ((gsh (56 + n)).getD kA j))) ∈ flatC gvn := by decide +kernel
theorem gv_oth : (Cond.eq (.static "java/lang/String" "COMPACT_STRINGS" "Z") (.int 1)) ∈ flatC gvn ∧ (Cond.isRef (.static "jdk/internal/util/Preconditions" "SIOOBE_FORMATTER" "Ljava/util/function/BiFunction;")) ∈ flatC gvn := by decide +kernel
abbrev sTm (k : Nat) : Term := .string "MovingMarket$Tape" (sIx.getD k 0)
theorem gv_str : ∀ k, k < 15 → (Cond.exactly (sTm k) "java/lang/String") ∈ flatC gvn ∧ (Cond.eq (.field (sTm k) "java/lang/String" "coder" "B") (.int 0)) ∈ flatC gvn ∧ (Cond.arrayOf (.field (sTm k) "java/lang/String" "value" "[B") .byte) ∈ flatC gvn ∧ (Cond.eq (.length (.field (sTm k) "java/lang/String" "value" "[B")) (.int (Int32.ofNat (sLen.getD k 0)))) ∈ flatC gvn ∧ ∀ j, j < sLen.getD k 0 → (Cond.eq (.elem (.field (sTm k) "java/lang/String" "value" "[B") (.int (Int32.ofNat j))) (.int ((sByt.getD k []).getD j 0))) ∈ flatC gvn := by decide +kernel
theorem gv_ne_1 : ∀ i, i < 1 → (Cond.not (Cond.eq (sTm i) (sTm 1))) ∈ flatC gvn := by decide +kernel
theorem gv_ne_2 : ∀ i, i < 2 → (Cond.not (Cond.eq (sTm i) (sTm 2))) ∈ flatC gvn := by decide +kernel
theorem gv_ne_3 : ∀ i, i < 3 → (Cond.not (Cond.eq (sTm i) (sTm 3))) ∈ flatC gvn := by decide +kernel
theorem gv_ne_4 : ∀ i, i < 4 → (Cond.not (Cond.eq (sTm i) (sTm 4))) ∈ flatC gvn := by decide +kernel
theorem gv_ne_5 : ∀ i, i < 5 → (Cond.not (Cond.eq (sTm i) (sTm 5))) ∈ flatC gvn := by decide +kernel
theorem gv_ne_6 : ∀ i, i < 6 → (Cond.not (Cond.eq (sTm i) (sTm 6))) ∈ flatC gvn := by decide +kernel
theorem gv_ne_7 : ∀ i, i < 7 → (Cond.not (Cond.eq (sTm i) (sTm 7))) ∈ flatC gvn := by decide +kernel
theorem gv_ne_8 : ∀ i, i < 8 → (Cond.not (Cond.eq (sTm i) (sTm 8))) ∈ flatC gvn := by decide +kernel
theorem gv_ne_9 : ∀ i, i < 9 → (Cond.not (Cond.eq (sTm i) (sTm 9))) ∈ flatC gvn := by decide +kernel
theorem gv_ne_10 : ∀ i, i < 10 → (Cond.not (Cond.eq (sTm i) (sTm 10))) ∈ flatC gvn := by decide +kernel
theorem gv_ne_11 : ∀ i, i < 11 → (Cond.not (Cond.eq (sTm i) (sTm 11))) ∈ flatC gvn := by decide +kernel
theorem gv_ne_12 : ∀ i, i < 12 → (Cond.not (Cond.eq (sTm i) (sTm 12))) ∈ flatC gvn := by decide +kernel
theorem gv_ne_13 : ∀ i, i < 13 → (Cond.not (Cond.eq (sTm i) (sTm 13))) ∈ flatC gvn := by decide +kernel
theorem gv_ne_14 : ∀ i, i < 14 → (Cond.not (Cond.eq (sTm i) (sTm 14))) ∈ flatC gvn := by decide +kernel
theorem gv_lt : ∀ j, j < 15 → ∀ i, i < j → (Cond.not (Cond.eq (sTm i) (sTm j))) ∈ flatC gvn := fun j hj => match j, hj with
  | 0, _ => fun i hi => absurd hi (Nat.not_lt_zero i)
  | 1, _ => gv_ne_1
  | 2, _ => gv_ne_2
  | 3, _ => gv_ne_3
  | 4, _ => gv_ne_4
  | 5, _ => gv_ne_5
  | 6, _ => gv_ne_6
  | 7, _ => gv_ne_7
  | 8, _ => gv_ne_8
  | 9, _ => gv_ne_9
  | 10, _ => gv_ne_10
  | 11, _ => gv_ne_11
  | 12, _ => gv_ne_12
  | 13, _ => gv_ne_13
  | 14, _ => gv_ne_14
  | n + 15, h => absurd h (by omega)
theorem gv_ne : ∀ i, i < 15 → ∀ j, j < 15 → i ≠ j → (Cond.not (Cond.eq (sTm i) (sTm j))) ∈ flatC gvn ∨ (Cond.not (Cond.eq (sTm j) (sTm i))) ∈ flatC gvn := by
  intro i hi j hj h
  rcases Nat.lt_or_gt_of_ne h with q | q
  · exact Or.inl (gv_lt j hj i q)
  · exact Or.inr (gv_lt i hi j q)
theorem tb_str : ∀ k, k < 15 → (Cond.stringRef "MovingMarket$Tape" (sIx.getD k 0) (sTx.getD k "")) ∈ lw_tbl := fun k hk => match k, hk with
  | 0, _ => tb_3 51 rfl
  | 1, _ => tb_3 52 rfl
  | 2, _ => tb_3 53 rfl
  | 3, _ => tb_3 54 rfl
  | 4, _ => tb_3 55 rfl
  | 5, _ => tb_3 56 rfl
  | 6, _ => tb_3 57 rfl
  | 7, _ => tb_3 114 rfl
  | 8, _ => tb_3 121 rfl
  | 9, _ => tb_3 122 rfl
  | 10, _ => tb_3 127 rfl
  | 11, _ => tb_3 128 rfl
  | 12, _ => tb_3 129 rfl
  | 13, _ => tb_3 134 rfl
  | 14, _ => tb_3 135 rfl
  | n + 15, h => absurd h (by omega)
theorem tbK : (Cond.laysStatic "MovingMarket" "KIND_ABOVE" "[I") ∈ lw_tbl := tb_3 157 rfl
theorem tbP : (Cond.laysStatic "MovingMarket" "PRICES" "[I") ∈ lw_tbl := tb_1 225 rfl
theorem tbC : (Cond.laysStatic "java/lang/String" "COMPACT_STRINGS" "Z") ∈ lw_tbl := tb_3 71 rfl
theorem tbQ : (Cond.laysStatic "jdk/internal/util/Preconditions" "SIOOBE_FORMATTER" "Ljava/util/function/BiFunction;") ∈ lw_tbl := tb_3 87 rfl
theorem tbnK : nwK ∈ lw_tbl := tb_3 156 rfl
theorem tbnP : nwP ∈ lw_tbl := tb_1 224 rfl
theorem tbnO : nkO ∈ lw_tbl := tb_1 88 rfl
theorem tbnT : nkT ∈ lw_tbl := tb_1 102 rfl
theorem tbnS : nkS ∈ lw_tbl := tb_1 129 rfl
theorem tbAO : Cond.arrayOver (.object "MovingMarket$Sheet") ∈ lw_tbl := tb_1 127 rfl
theorem tbAC : Cond.arrayClass .int ∈ lw_tbl := tb_1 85 rfl
/-- what stands outside of the world, at the start -/
theorem law_given {s : State} {args : Array Value} {G : Gt} {adK adV : Nat → Nat} {A : Nat → Prop} (hts : ∀ w ∈ lw_tbl, w.before args s = true) (hgv : gvn.before args s = true) (hA : ∀ a : Nat, a < s.heap.size → ¬ A a)
    (e56 : (Term.static "MovingMarket" "KIND_ABOVE" "[I").eval args s none [] s = some (.ref (ga G 56)) ∧ va_X (ga G 56) 7 kA s s.heap ∧ ga G 56 < s.heap.size) (e57 : (Term.static "MovingMarket" "PRICES" "[I").eval args s none [] s = some (.ref (ga G 57)) ∧ va_X (ga G 57) 7 pR s s.heap ∧ ga G 57 < s.heap.size)
    (eK : ∀ k, ga G (60 + k) = adK k) (eV : gV G = adV) (hS : vk_S 15 sLen sByt adK adV A s s.heap) (hR : ∀ i : Nat, i < 15 → (sTm i).eval args s none [] s = some (.ref (adK i))) : GLb G A s s.heap := by
  have hAW : ∀ w ∈ AW, w.before args s = true := fun w h => hts w (List.mem_filter.mp h).1
  have hs : ∀ w ∈ flatC gvn, w.before args s = true := flat_of_before _ hgv
  have eK' : (fun k => ga G (60 + k)) = adK := funext eK
  refine ⟨⟨⟨va_Zof (hts _ tbK) (hAW _ wd_1_1) e56.1 hA, e56.2.1, e56.2.2, hA _ e56.2.2⟩, ⟨va_Zof (hts _ tbP) (hAW _ wd_1_1) e57.1 hA, e57.2.1, e57.2.2, hA _ e57.2.2⟩⟩, ?_, ?_, ⟨va_Nw.of rfl (hts _ tbnK), va_Nw.of rfl (hts _ tbnP)⟩, va_Zof (hts _ tbC) (hAW _ wd_1_10) (va_eqi (hs _ gv_oth.1)) hA, va_Zqof (hts _ tbQ) (hAW _ wd_1_12) (hs _ gv_oth.2) hA⟩
  · rw [eK', eV]
    exact hS
  · intro k hk
    rw [eK k]
    refine vk_R.of (A := args) (hts _ (tb_str k hk)) ?_
    exact hR k hk
theorem law_rows {s : State} {args : Array Value} (hgv : gvn.before args s = true) : ∃ t56 t57 : Nat, ((Term.static "MovingMarket" "KIND_ABOVE" "[I").eval args s none [] s = some (.ref t56) ∧ va_X t56 7 kA s s.heap ∧ t56 < s.heap.size) ∧ ((Term.static "MovingMarket" "PRICES" "[I").eval args s none [] s = some (.ref t57) ∧ va_X t57 7 pR s s.heap ∧ t57 < s.heap.size) := by
  have hs : ∀ w ∈ flatC gvn, w.before args s = true := flat_of_before _ hgv
  obtain ⟨a1, a2, a3⟩ := gv_row 0 (by decide)
  obtain ⟨b1, b2, b3⟩ := gv_row 1 (by decide)
  obtain ⟨t, h⟩ := va_Xof (N := 7) (f := kA) (by decide) (hs _ a1) (va_eqt (hs _ a2)) (fun j hj => va_eqt (hs _ (a3 j hj)))
  obtain ⟨u, g⟩ := va_Xof (N := 7) (f := pR) (by decide) (hs _ b1) (va_eqt (hs _ b2)) (fun j hj => va_eqt (hs _ (b3 j hj)))
  exact ⟨t, u, h, g⟩
theorem law_strs {s : State} {args : Array Value} {A : Nat → Prop} (hgv : gvn.before args s = true) (hA : ∀ a : Nat, a < s.heap.size → ¬ A a) : ∃ adK adV : Nat → Nat, vk_S 15 sLen sByt adK adV A s s.heap ∧ ∀ i : Nat, i < 15 → (sTm i).eval args s none [] s = some (.ref (adK i)) := by
  have hs : ∀ w ∈ flatC gvn, w.before args s = true := flat_of_before _ hgv
  refine vk_Sof (args := args) (s := s) (N := 15) (tm := sTm) (len := sLen) (byt := sByt) (A := A) (by decide) (fun i hi => hs _ (gv_str i hi).1) (fun i hi => hs _ (gv_str i hi).2.1) (fun i hi => hs _ (gv_str i hi).2.2.1) (fun i hi => hs _ (gv_str i hi).2.2.2.1) (fun i hi j hj => hs _ ((gv_str i hi).2.2.2.2 j hj)) (fun i j hi hj h => ?_) hA
  rcases gv_ne i hi j hj h with q | q
  · exact Or.inl (hs _ q)
  · exact Or.inr (hs _ q)
/-- the first ints -/
def fO : Nat → Int32 := fun k => if k = 11 then 1 else 0
def sg0 : Sg := fun i => match i with
  | 1 => fO
  | 10 => fO
  | 19 => fO
  | 2 => fl 12 3 (fun _ => 0)
  | 11 => fl 12 3 (fun _ => 0)
  | 20 => fl 12 3 (fun _ => 0)
  | 9 => fl 10 (-1) (fun _ => 0)
  | 18 => fl 10 (-1) (fun _ => 0)
  | 27 => fl 10 (-1) (fun _ => 0)
  | 46 => fM 12 10
  | _ => fun _ => 0
theorem ZT_0 {T : Sg} (e0 : T 0 = fO) (e1 : T 1 = fl 12 3 (fun _ => 0)) (e8 : T 8 = fl 10 (-1) (fun _ => 0)) (e : ∀ j, 2 ≤ j → j < 8 → T j = fun _ => 0) : ZT T := by
  have z : ∀ {n j : Nat}, 2 ≤ j → j < 8 → Zr n (T j) := fun h1 h2 k _ => by rw [e _ h1 h2]
  refine ⟨fun k hk => ?_, ⟨fun k hk => ?_, z (by decide) (by decide)⟩, ⟨z (by decide) (by decide), z (by decide) (by decide), z (by decide) (by decide), z (by decide) (by decide), z (by decide) (by decide)⟩, fun k hk => ?_⟩
  · rw [e0]; exact if_neg (by omega)
  · rw [e1]; exact if_neg (by omega)
  · rw [e8]; exact if_neg (by omega)
theorem sg0_j {o : Nat} (ho : o = 1 ∨ o = 10 ∨ o = 19) : ∀ j, 2 ≤ j → j < 8 → Tq o sg0 j = fun _ => 0 := by
  intro j h1 h2
  have hj : j = 2 ∨ j = 3 ∨ j = 4 ∨ j = 5 ∨ j = 6 ∨ j = 7 := by omega
  rcases ho with rfl | rfl | rfl <;> rcases hj with rfl | rfl | rfl | rfl | rfl | rfl <;> rfl
theorem VT_0 : VT 0 0 (Tq 1 sg0) := by
  have e : ∀ j, 2 ≤ j → j < 8 → ∀ k, Tq 1 sg0 j k = nI 0 := fun j h1 h2 k => (congrFun (sg0_j (Or.inl rfl) j h1 h2) k).trans nI_0.symm
  refine ⟨⟨by decide, by decide, ?_, ?_⟩, fun k hk => ⟨0, by decide, e 4 (by decide) (by decide) k⟩, fun k hk => ⟨0, by decide, e 3 (by decide) (by decide) k⟩, fun k hk => ⟨0, by decide, e 5 (by decide) (by decide) k⟩, fun k hk => ⟨0, by decide, e 6 (by decide) (by decide) k⟩, fun p hp => ⟨3, by decide, ?_⟩, ⟨0, by decide, ?_⟩, fun i j hi => absurd hi (by omega), fun q hq => Or.inl ?_⟩
  · decide
  · decide
  · show fl 12 3 (fun _ => 0) p = nI 3
    unfold fl
    rw [if_pos hp]
    decide
  · decide
  · show fl 10 (-1) (fun _ => 0) q = -1
    exact if_pos hq
theorem flat_0 : flat (Tq 1 sg0) = fM 12 10 := by
  funext j
  have e : ∀ w, w < 5 → ∀ k, Tq 1 sg0 (3 + w) k = 0 := fun w h k => congrFun (sg0_j (Or.inl rfl) (3 + w) (by omega) (by omega)) k
  by_cases h4 : 4 ≤ j
  · rw [flat_ge h4]
    unfold fM
    by_cases h16 : j < 16
    · rw [if_pos h16, if_pos (by omega)]
      show fl 12 3 (fun _ => 0) (j - 4) = 3
      exact if_pos (by omega)
    · rw [if_neg h16, if_neg (show ¬ (4 ≤ j ∧ j < 4 + 12) by omega)]
      by_cases h28 : j < 28
      · rw [if_pos h28, if_neg (by omega), if_neg (by omega)]
        exact congrFun (sg0_j (Or.inl rfl) 2 (by decide) (by decide)) _
      · rw [if_neg h28]
        by_cases h68 : j < 68
        · rw [if_pos h68, if_neg (by omega), if_neg (by omega)]
          exact e _ (Nat.mod_lt _ (by decide)) _
        · rw [if_neg h68]
          by_cases h78 : j < 78
          · rw [if_pos h78, if_pos (by omega)]
            show fl 10 (-1) (fun _ => 0) (j - 68) = -1
            exact if_pos (by omega)
          · rw [if_neg h78, if_neg (by omega), if_neg (by omega)]
  · have hj : j = 0 ∨ j = 1 ∨ j = 2 ∨ j = 3 := by omega
    rcases hj with rfl | rfl | rfl | rfl <;> decide
theorem J_0 : J sg0 := by
  refine ⟨⟨0, 0, VT_0, by decide⟩, ⟨ZT_0 rfl rfl rfl (sg0_j (Or.inl rfl)), ZT_0 rfl rfl rfl (sg0_j (Or.inr (Or.inl rfl))), ZT_0 rfl rfl rfl (sg0_j (Or.inr (Or.inr rfl)))⟩, flat_0.symm, ⟨fun _ _ => rfl, fun _ _ => rfl⟩, ⟨rfl, Or.inl rfl, fun h => absurd h (by decide)⟩, fun _ _ => rfl, ⟨0, by decide, by decide, by decide, fun k hk => absurd hk (by omega)⟩, fun s hs => ?_⟩
  have hs' : s = 0 ∨ s = 1 ∨ s = 2 ∨ s = 3 := by omega
  rcases hs' with rfl | rfl | rfl | rfl <;> exact ⟨0, by decide, by decide, by decide, rfl, Or.inl rfl, fun _ _ => rfl⟩
