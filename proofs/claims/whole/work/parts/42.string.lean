/-! THE JDK's String: length, charAt on the constants (places 60 ..) -/
abbrev mJ0_coder : MI := (yJ0_coder_7d493, cJ0_coder_7d493, 1, some .byte, 0, 0)
abbrev mJ0_isLatin1 : MI := (yJ0_isLatin1_aae02, cJ0_isLatin1_aae02, 1, some .boolean, 0, 0)
abbrev mJ3_ci : MI := (yJ3_checkIndex_8e157, cJ3_checkIndex_8e157, 3, some .int, 0, 0)
abbrev mJ0_ci : MI := (yJ0_checkIndex_df160, cJ0_checkIndex_df160, 2, none, 1, 22)
abbrev mJ1_charAt : MI := (yJ1_charAt_3b067, cJ1_charAt_3b067, 2, some .char, 2, 43)
/-- a contract whose arguments are told by the addresses -/
def Ca (M : MI) (As : Gt → List Value) (σ : Sg) (rt : Rt) : Prop := ∀ (l : Launch) (G : Gt), Met l M.1 (wsM M) (rmM M) (va_Pc (As G) (PRE G σ)) (Qg G rt) 0 0 (Aw (ga G))
theorem Ca_of {M : MI} {As : Gt → List Value} {σ : Sg} {rt : Rt} (hy : plainFor M.1 = true) (hlen : ∀ G, (lg_sl (As G)).length ≤ M.2.2.1)
    (h : ∀ (l : Launch) (G : Gt) (p : Program) (e : Env) (s : State) (m : MethodId) (below : List Frame) (meth : Method) (c : Code), Cx none M.1.cls M.2.1 M.2.2.1 M.2.2.2.1 (rmM M) G rt (Aw (ga G)) 0 0 p e (rmM M) s m (As G).toArray below meth c (MQ below (Qg G rt) (As G).toArray s 0 0 (Aw (ga G))) → wP G σ s.heap → ∀ rls : Array Slot, lv_has rls M.2.2.1 (lv_args 0 (As G)) → W p l e (rmM M) s m (As G).toArray below meth c s.heap [] 0 0 (MQ below (Qg G rt) (As G).toArray s 0 0 (Aw (ga G))) (F0 m 0 rls [])) : Ca M As σ rt := by
  intro l G
  refine va_MetF (cc := M.2.1) (maxL := M.2.2.1) (ret := M.2.2.2.1) hy rfl ?_
  intro p e s m args below meth c s₁ B hml hv
  obtain ⟨rfl, hP, hK, hI, hG⟩ := hv
  have hts := atoms_spec (ws := wsM M) B.pre
  have C : Cx none M.1.cls M.2.1 M.2.2.1 M.2.2.2.1 (rmM M) G rt (Aw (ga G)) 0 0 p e (rmM M) s m (As G).toArray below meth c (MQ below (Qg G rt) (As G).toArray s 0 0 (Aw (ga G))) :=
    ⟨⟨B.exec, B.bytes, hml, findClass_of_methodNamed B.named, fun w hw => hts w (List.mem_cons_of_mem _ hw)⟩, fun _ => ⟨B.returns, rfl, rfl, rfl, rfl⟩, B.notSynchronized, ⟨hK, hI, hG⟩, rfl, fun _ h => h, ⟨Nat.zero_le _, Nat.zero_le _⟩, fun _ _ h => by cases h⟩
  have hl := lv_entry (As G) (n := M.2.2.1) (hlen G)
  rw [lg_entry_eq]
  exact h l G p e s m below meth c C hP _ hl
section RAW
variable {scr : Scr} {own : String} {cc : ByteArray} {nL : Nat} {ret : Option FieldType} {R0 : Room} {G : Gt} {rt : Rt} {A : Nat → Prop} {cells slots : Nat} {p : Program} {l : Launch} {e : Env} {R : Room} {s : State} {m : MethodId} {args : Array Value} {below : List Frame} {meth : Method} {c : Code} {Q : State → Prop} {H : Heap} {locs : List Loc}
theorem rawV (C0 : Cx scr own cc nL ret R0 G rt A cells slots p e R s m args below meth c Q) {M : MI} {n idx : Nat} {C : String} {b : Nat} {As rest : List Value} {σ : Sg} {rt' : Rt} {pc : Nat} {rls : Array Slot} (hP : wP G σ H) (hS : va_S A s.heap H locs) (hsz : rls.size = nL)
    (hM : Met l M.1 (wsM M) (rmM M) (va_Pc (.ref b :: As) (PRE G σ)) (Qg G rt') 0 0 (Aw (ga G))) (hd : decode cc pc = .ok (.invokevirtual idx, 3)) (w1 : Cond.methodLink own idx M.1 ∈ AW) (w2 : Cond.instanceMethod M.1 ∈ AW) (w3 : Cond.selects C M.1 M.1 ∈ AW) (w4 : Cond.initialized C ∈ AW) (w5 : Cond.code M.1 M.2.1 M.2.2.1 M.2.2.2.1 ∈ AW)
    (hdd : M.1.cls = C ∧ M.1.cls ≠ "java/lang/invoke/MethodHandle" ∧ M.1.cls ≠ "java/lang/invoke/VarHandle" ∧ (parseMethodDescriptor M.1.desc).map (fun d => d.parameters.length) = some n) (hR : M.2.2.2.2.1 + 1 ≤ R0.frames ∧ 8 + (M.2.2.1 + 11) + M.2.2.2.2.2 ≤ R0.locals)
    (hrecv : ∃ cell : Cell, H[b]? = some cell ∧ cell.vm.isStatics = false ∧ s.vm.findClass C = some cell.cls) (hn : As.length = n) (hsum : (rest.map fun v => v.category).sum ≤ 8)
    (kk : ∀ (r : Option Value) (σ' : Sg) (H1 : Heap) (locs1 : List Loc), rt' r σ' → wP G σ' H1 → va_S A s.heap H1 locs1 → W p l e R s m args below meth c H1 locs1 cells slots Q (F0 m (pc + 3) rls ((r.map (vM (ga G))).toList ++ rest))) : W p l e R s m args below meth c H locs cells slots Q (F0 m pc rls (As.reverse ++ .ref b :: rest)) := by
  obtain ⟨C1, -, hlk, ⟨hK, hI, hG⟩, hRR, hX⟩ := C0
  have hg : GoodIn AW (wsV own idx C M.1 (wsM M)) := by
    intro w hw
    rcases List.mem_append.mp hw with hw | hw
    · simp only [List.mem_cons, List.not_mem_nil, or_false] at hw
      rcases hw with rfl | rfl | rfl | rfl
      · exact GoodIn_one w1
      · exact GoodIn_one w2
      · exact GoodIn_one w3
      · exact GoodIn_one w4
    · exact GoodIn_wsM w5 w hw
  refine callG (rt := rt') (va_runV (As := As) (rest := rest) (b := b) C1 hM (cwV n C1.2.2.2.2 hg rfl rfl rfl hdd (by rw [hRR]; exact hR)) ⟨PRE_blind, hrecv, fun U hU hW => ⟨rfl, by rw [hU]; exact hP, va_K.moved hW.alike hK, hI, ?_⟩⟩ rfl hn hsz rfl (lv_room hsum) hd ⟨hX.2.1.1, hX.2.1.2⟩) hS hX.1 kk
  rw [hU]
  exact GLb.warm hW (GLb.narrow hX.1 (GLb.kept hS.1 hS.2.1 hG))
theorem rawS (C0 : Cx scr own cc nL ret R0 G rt A cells slots p e R s m args below meth c Q) {M : MI} {n idx : Nat} {As rest : List Value} {σ : Sg} {rt' : Rt} {pc : Nat} {rls : Array Slot} (hP : wP G σ H) (hS : va_S A s.heap H locs) (hsz : rls.size = nL)
    (hM : Met l M.1 (wsM M) (rmM M) (va_Pc As (PRE G σ)) (Qg G rt') 0 0 (Aw (ga G))) (hd : decode cc pc = .ok (.invokestatic idx, 3)) (w1 : Cond.methodLink own idx M.1 ∈ AW) (w2 : Cond.static M.1 ∈ AW) (w4 : Cond.initialized M.1.cls ∈ AW) (w5 : Cond.code M.1 M.2.1 M.2.2.1 M.2.2.2.1 ∈ AW)
    (hdd : M.1.cls ≠ "java/lang/invoke/MethodHandle" ∧ M.1.cls ≠ "java/lang/invoke/VarHandle" ∧ (parseMethodDescriptor M.1.desc).map (fun d => d.parameters.length) = some n) (hR : M.2.2.2.2.1 + 1 ≤ R0.frames ∧ 8 + (M.2.2.1 + 11) + M.2.2.2.2.2 ≤ R0.locals)
    (hn : As.length = n) (hsum : (rest.map fun v => v.category).sum ≤ 8)
    (kk : ∀ (r : Option Value) (σ' : Sg) (H1 : Heap) (locs1 : List Loc), rt' r σ' → wP G σ' H1 → va_S A s.heap H1 locs1 → W p l e R s m args below meth c H1 locs1 cells slots Q (F0 m (pc + 3) rls ((r.map (vM (ga G))).toList ++ rest))) : W p l e R s m args below meth c H locs cells slots Q (F0 m pc rls (As.reverse ++ rest)) := by
  obtain ⟨C1, -, hlk, ⟨hK, hI, hG⟩, hRR, hX⟩ := C0
  refine callG (rt := rt') (va_runS (As := As) (rest := rest) C1 hM ⟨callB_of n C1.2.2.2.2 (GoodIn_wsM w5) rfl rfl rfl (C1.2.2.2.2 _ w4) (C1.2.2.2.2 _ w1) hdd (by rw [hRR]; exact hR), C1.2.2.2.2 _ w2⟩ ⟨PRE_blind, fun U hU hW => ⟨rfl, by rw [hU]; exact hP, va_K.moved hW.alike hK, hI, ?_⟩⟩ rfl hn hsz rfl (lv_room hsum) hd ⟨hX.2.1.1, hX.2.1.2⟩) hS hX.1 kk
  rw [hU]
  exact GLb.warm hW (GLb.narrow hX.1 (GLb.kept hS.1 hS.2.1 hG))
end RAW
theorem d_co_0 : decode cJ0_coder_7d493 0 = .ok (.getstatic 38, 3) := by decide +kernel
theorem d_co_3 : decode cJ0_coder_7d493 3 = .ok (.ifCond .eq 10, 3) := by decide +kernel
theorem d_co_6 : decode cJ0_coder_7d493 6 = .ok (.aload_n 0, 1) := by decide +kernel
theorem d_co_7 : decode cJ0_coder_7d493 7 = .ok (.getfield 15, 3) := by decide +kernel
theorem d_co_10 : decode cJ0_coder_7d493 10 = .ok (.goto 4, 3) := by decide +kernel
theorem d_co_14 : decode cJ0_coder_7d493 14 = .ok (.ireturn, 1) := by decide +kernel
theorem d_le_0 : decode cJ0_length_8abf5 0 = .ok (.aload_n 0, 1) := by decide +kernel
theorem d_le_1 : decode cJ0_length_8abf5 1 = .ok (.getfield 9, 3) := by decide +kernel
theorem d_le_4 : decode cJ0_length_8abf5 4 = .ok (.arraylength, 1) := by decide +kernel
theorem d_le_5 : decode cJ0_length_8abf5 5 = .ok (.aload_n 0, 1) := by decide +kernel
theorem d_le_6 : decode cJ0_length_8abf5 6 = .ok (.invokevirtual 335, 3) := by decide +kernel
theorem d_le_9 : decode cJ0_length_8abf5 9 = .ok (.ishr, 1) := by decide +kernel
theorem d_le_10 : decode cJ0_length_8abf5 10 = .ok (.ireturn, 1) := by decide +kernel
theorem d_la_0 : decode cJ0_isLatin1_aae02 0 = .ok (.getstatic 38, 3) := by decide +kernel
theorem d_la_3 : decode cJ0_isLatin1_aae02 3 = .ok (.ifCond .eq 14, 3) := by decide +kernel
theorem d_la_6 : decode cJ0_isLatin1_aae02 6 = .ok (.aload_n 0, 1) := by decide +kernel
theorem d_la_7 : decode cJ0_isLatin1_aae02 7 = .ok (.getfield 15, 3) := by decide +kernel
theorem d_la_10 : decode cJ0_isLatin1_aae02 10 = .ok (.ifCond .ne 7, 3) := by decide +kernel
theorem d_la_13 : decode cJ0_isLatin1_aae02 13 = .ok (.iconst 1, 1) := by decide +kernel
theorem d_la_14 : decode cJ0_isLatin1_aae02 14 = .ok (.goto 4, 3) := by decide +kernel
theorem d_la_18 : decode cJ0_isLatin1_aae02 18 = .ok (.ireturn, 1) := by decide +kernel
theorem d_ch_0 : decode cJ0_charAt_5068e 0 = .ok (.aload_n 0, 1) := by decide +kernel
theorem d_ch_1 : decode cJ0_charAt_5068e 1 = .ok (.invokevirtual 492, 3) := by decide +kernel
theorem d_ch_4 : decode cJ0_charAt_5068e 4 = .ok (.ifCond .eq 12, 3) := by decide +kernel
theorem d_ch_7 : decode cJ0_charAt_5068e 7 = .ok (.aload_n 0, 1) := by decide +kernel
theorem d_ch_8 : decode cJ0_charAt_5068e 8 = .ok (.getfield 9, 3) := by decide +kernel
theorem d_ch_11 : decode cJ0_charAt_5068e 11 = .ok (.iload_n 1, 1) := by decide +kernel
theorem d_ch_12 : decode cJ0_charAt_5068e 12 = .ok (.invokestatic 495, 3) := by decide +kernel
theorem d_ch_15 : decode cJ0_charAt_5068e 15 = .ok (.ireturn, 1) := by decide +kernel
theorem d_lc_0 : decode cJ1_charAt_3b067 0 = .ok (.iload_n 1, 1) := by decide +kernel
theorem d_lc_1 : decode cJ1_charAt_3b067 1 = .ok (.aload_n 0, 1) := by decide +kernel
theorem d_lc_2 : decode cJ1_charAt_3b067 2 = .ok (.arraylength, 1) := by decide +kernel
theorem d_lc_3 : decode cJ1_charAt_3b067 3 = .ok (.invokestatic 9, 3) := by decide +kernel
theorem d_lc_6 : decode cJ1_charAt_3b067 6 = .ok (.aload_n 0, 1) := by decide +kernel
theorem d_lc_7 : decode cJ1_charAt_3b067 7 = .ok (.iload_n 1, 1) := by decide +kernel
theorem d_lc_8 : decode cJ1_charAt_3b067 8 = .ok (.baload, 1) := by decide +kernel
theorem d_lc_9 : decode cJ1_charAt_3b067 9 = .ok (.sipush 255, 3) := by decide +kernel
theorem d_lc_12 : decode cJ1_charAt_3b067 12 = .ok (.iand, 1) := by decide +kernel
theorem d_lc_13 : decode cJ1_charAt_3b067 13 = .ok (.i2c, 1) := by decide +kernel
theorem d_lc_14 : decode cJ1_charAt_3b067 14 = .ok (.ireturn, 1) := by decide +kernel
theorem d_sc_0 : decode cJ0_checkIndex_df160 0 = .ok (.iload_n 0, 1) := by decide +kernel
theorem d_sc_1 : decode cJ0_checkIndex_df160 1 = .ok (.iload_n 1, 1) := by decide +kernel
theorem d_sc_2 : decode cJ0_checkIndex_df160 2 = .ok (.getstatic 1053, 3) := by decide +kernel
theorem d_sc_5 : decode cJ0_checkIndex_df160 5 = .ok (.invokestatic 1059, 3) := by decide +kernel
theorem d_sc_8 : decode cJ0_checkIndex_df160 8 = .ok (.pop, 1) := by decide +kernel
theorem d_sc_9 : decode cJ0_checkIndex_df160 9 = .ok (.return_, 1) := by decide +kernel
theorem d_pc_0 : decode cJ3_checkIndex_8e157 0 = .ok (.iload_n 0, 1) := by decide +kernel
theorem d_pc_1 : decode cJ3_checkIndex_8e157 1 = .ok (.ifCond .lt 8, 3) := by decide +kernel
theorem d_pc_4 : decode cJ3_checkIndex_8e157 4 = .ok (.iload_n 0, 1) := by decide +kernel
theorem d_pc_5 : decode cJ3_checkIndex_8e157 5 = .ok (.iload_n 1, 1) := by decide +kernel
theorem d_pc_6 : decode cJ3_checkIndex_8e157 6 = .ok (.if_icmp .lt 10, 3) := by decide +kernel
theorem d_pc_16 : decode cJ3_checkIndex_8e157 16 = .ok (.iload_n 0, 1) := by decide +kernel
theorem d_pc_17 : decode cJ3_checkIndex_8e157 17 = .ok (.ireturn, 1) := by decide +kernel
abbrev gS {scr : Scr} {own : String} {cc : ByteArray} {nL : Nat} {ret : Option FieldType} {R0 : Room} {G : Gt} {rt : Rt} {A : Nat → Prop} {cells slots : Nat} {p : Program} {e : Env} {R : Room} {s : State} {m : MethodId} {args : Array Value} {below : List Frame} {meth : Method} {c : Code} {Q : State → Prop} (C : Cx scr own cc nL ret R0 G rt A cells slots p e R s m args below meth c Q) : GLb G A s s.heap := C.2.2.2.1.2.2
theorem ca_coder {k : Nat} (hk : k < 15) (σ : Sg) : Ca mJ0_coder (fun G => [.ref (ga G (60 + k))]) σ (Ex (some (.int 0)) σ) := by
  refine Ca_of (by decide +kernel) (fun G => Nat.le_of_ble_eq_true rfl) (fun l G p e s m below meth c C hP rls hl => ?_)
  have hlk := C.2.2.1
  have hS0 : va_S (Aw (ga G)) s.heap s.heap [] := va_S.rf
  have hE := (gS C).2.1.1 k hk
  refine va_gets C.1.1 C.1.2.1 (gS C).2.2.2.2.1 hS0 C.1.2.2.2.1 (C.1.2.2.2.2 _ wd_3_70) (fun _ h => h) d_co_0 ?_
  refine lv_if_eq C.1.1 C.1.2.1 (tgt := 13) d_co_3 (by decide) (fun q => absurd q (by decide)) (fun _ => ?_)
  refine lv_aload_n C.1.1 C.1.2.1 d_co_6 rfl (lv_at hl 0 rfl) ?_
  refine vk_getf C.1.1 C.1.2.1 hE.2.1 hS0 C.1.2.2.2.1 (C.1.2.2.2.2 _ wd_6_35) (fun _ h => h) d_co_7 ?_
  refine lv_goto C.1.1 C.1.2.1 (tgt := 14) d_co_10 (by decide) ?_
  exact W.zret (v := 0) C.1.1 C.1.2.1 (C.2.1 (by decide)).1 (rfl : narrow .byte (.int 0) = .int 0) (fun t ht hW => ⟨⟨some (.int 0), σ, rfl, ⟨rfl, rfl⟩, by rw [ht]; exact hP⟩, hS0.F ht⟩) hS0.2.2 d_co_14
theorem ca_latin {k : Nat} (hk : k < 15) (σ : Sg) : Ca mJ0_isLatin1 (fun G => [.ref (ga G (60 + k))]) σ (Ex (some (.int 1)) σ) := by
  refine Ca_of (by decide +kernel) (fun G => Nat.le_of_ble_eq_true rfl) (fun l G p e s m below meth c C hP rls hl => ?_)
  have hlk := C.2.2.1
  have hS0 : va_S (Aw (ga G)) s.heap s.heap [] := va_S.rf
  have hE := (gS C).2.1.1 k hk
  refine va_gets C.1.1 C.1.2.1 (gS C).2.2.2.2.1 hS0 C.1.2.2.2.1 (C.1.2.2.2.2 _ wd_3_70) (fun _ h => h) d_la_0 ?_
  refine lv_if_eq C.1.1 C.1.2.1 (tgt := 17) d_la_3 (by decide) (fun q => absurd q (by decide)) (fun _ => ?_)
  refine lv_aload_n C.1.1 C.1.2.1 d_la_6 rfl (lv_at hl 0 rfl) ?_
  refine vk_getf C.1.1 C.1.2.1 hE.2.1 hS0 C.1.2.2.2.1 (C.1.2.2.2.2 _ wd_6_35) (fun _ h => h) d_la_7 ?_
  refine lv_if_ne C.1.1 C.1.2.1 (tgt := 17) d_la_10 (by decide) (fun q => absurd rfl q) (fun _ => ?_)
  refine lv_iconst C.1.1 C.1.2.1 (v := 1) d_la_13 (by decide) ?_
  refine lv_goto C.1.1 C.1.2.1 (tgt := 18) d_la_14 (by decide) ?_
  exact W.zret (v := 1) C.1.1 C.1.2.1 (C.2.1 (by decide)).1 (rfl : narrow .boolean (.int 1) = .int 1) (fun t ht hW => ⟨⟨some (.int 1), σ, rfl, ⟨rfl, rfl⟩, by rw [ht]; exact hP⟩, hS0.F ht⟩) hS0.2.2 d_la_18
theorem s_len : ∀ k, k < 15 → sLen.getD k 0 ≤ 6 := by decide +kernel
theorem shr0 : ∀ n, n < 7 → nI n >>> ((0 : Int32) &&& 31) = nI n := by decide +kernel
theorem ct_len {k : Nat} (hk : k < 15) (σ : Sg) : Ct mJ0_length_8abf5 [.ref (60 + k)] σ (Ex (some (.int (nI (sLen.getD k 0)))) σ) := by
  have := s_len k hk
  refine Ca_of (M := mJ0_length_8abf5) (As := fun G => sM (ga G) [.ref (60 + k)]) (by decide +kernel) (fun G => Nat.le_of_ble_eq_true rfl) (fun l G p e s m below meth c C hP rls hl => ?_)
  have hlk := C.2.2.1
  have hS0 : va_S (Aw (ga G)) s.heap s.heap [] := va_S.rf
  have hE := (gS C).2.1.1 k hk
  refine lv_aload_n C.1.1 C.1.2.1 d_le_0 rfl (lv_at hl 0 rfl) ?_
  refine vk_getf C.1.1 C.1.2.1 hE.2.2.1 hS0 C.1.2.2.2.1 (C.1.2.2.2.2 _ wd_6_34) (fun _ h => h) d_le_1 ?_
  refine va_tlen C.1.1 C.1.2.1 hE.2.2.2 hS0 (v := nI (sLen.getD k 0)) rfl d_le_4 ?_
  refine lv_aload_n C.1.1 C.1.2.1 d_le_5 rfl (lv_at hl 0 rfl) ?_
  refine rawV C (M := mJ0_coder) (n := 0) (C := "java/lang/String") (b := ga G (60 + k)) (As := []) hP hS0 hl.1 (ca_coder hk σ l G) d_le_6 wd_3_66 wd_3_67 wd_3_68 wd_1_10 wd_3_69 (by decide +kernel) ⟨Nat.le_of_ble_eq_true rfl, Nat.le_of_ble_eq_true rfl⟩ (vk_recv (i := k) (gS C).2.1 hk hS0) rfl (Nat.le_of_ble_eq_true rfl) (fun r σ' H1 locs1 hr hP1 hS1 => ?_)
  obtain ⟨rfl, hr2⟩ := hr
  have hr2 := hr2.symm
  subst hr2
  refine lv_ishr C.1.1 C.1.2.1 d_le_9 ?_
  rw [shr0 _ (by omega)]
  exact W.iret (v := nI (sLen.getD k 0)) C.1.1 C.1.2.1 (C.2.1 (by decide)).1 (fun t ht hW => ⟨⟨some (.int (nI (sLen.getD k 0))), σ, rfl, ⟨rfl, rfl⟩, by rw [ht]; exact hP1⟩, hS1.F ht⟩) hS1.2.2 d_le_10
theorem ca_ci3 {i n : Nat} (hi : i < n) (hn : n ≤ 6) (v : Value) (hv : v = .null ∨ ∃ t, v = .ref t) (σ : Sg) : Ca mJ3_ci (fun _ => [.int (nI i), .int (nI n), v]) σ (Ex (some (.int (nI i))) σ) := by
  refine Ca_of (by decide +kernel) (fun G => by rcases hv with rfl | ⟨t, rfl⟩ <;> exact Nat.le_of_ble_eq_true rfl) (fun l G p e s m below meth c C hP rls hl => ?_)
  have hlk := C.2.2.1
  have hS0 : va_S (Aw (ga G)) s.heap s.heap [] := va_S.rf
  refine lv_iload_n C.1.1 C.1.2.1 d_pc_0 rfl (lv_at hl 0 rfl) ?_
  refine lv_if_lt C.1.1 C.1.2.1 (tgt := 9) d_pc_1 (by decide) (fun q => absurd q (nI_pos (by omega))) (fun _ => ?_)
  refine lv_iload_n C.1.1 C.1.2.1 d_pc_4 rfl (lv_at hl 0 rfl) ?_
  refine lv_iload_n C.1.1 C.1.2.1 d_pc_5 rfl (lv_at hl 1 rfl) ?_
  refine lv_icmp_lt C.1.1 C.1.2.1 (tgt := 16) d_pc_6 (by decide) (fun _ => ?_) (fun q => absurd (nI_lt hi (by omega)) q)
  refine lv_iload_n C.1.1 C.1.2.1 d_pc_16 rfl (lv_at hl 0 rfl) ?_
  exact W.iret (v := nI i) C.1.1 C.1.2.1 (C.2.1 (by decide)).1 (fun t ht hW => ⟨⟨some (.int (nI i)), σ, rfl, ⟨rfl, rfl⟩, by rw [ht]; exact hP⟩, hS0.F ht⟩) hS0.2.2 d_pc_17
theorem ca_ci {i n : Nat} (hi : i < n) (hn : n ≤ 6) (σ : Sg) : Ca mJ0_ci (fun _ => [.int (nI i), .int (nI n)]) σ (Ex none σ) := by
  refine Ca_of (by decide +kernel) (fun G => Nat.le_of_ble_eq_true rfl) (fun l G p e s m below meth c C hP rls hl => ?_)
  have hlk := C.2.2.1
  have hS0 : va_S (Aw (ga G)) s.heap s.heap [] := va_S.rf
  refine lv_iload_n C.1.1 C.1.2.1 d_sc_0 rfl (lv_at hl 0 rfl) ?_
  refine lv_iload_n C.1.1 C.1.2.1 d_sc_1 rfl (lv_at hl 1 rfl) ?_
  have key : ∀ v : Value, (v = .null ∨ ∃ t, v = .ref t) → va_Z "jdk/internal/util/Preconditions" "SIOOBE_FORMATTER" "Ljava/util/function/BiFunction;" v (Aw (ga G)) s s.heap → W p l e (rmM mJ0_ci) s m [Value.int (nI i), Value.int (nI n)].toArray below meth c s.heap [] 0 0 (MQ below (Qg G (Ex none σ)) [Value.int (nI i), Value.int (nI n)].toArray s 0 0 (Aw (ga G))) (F0 m 2 rls [.int (nI n), .int (nI i)]) := by
    intro v hv hz
    refine va_gets C.1.1 C.1.2.1 hz hS0 C.1.2.2.2.1 (C.1.2.2.2.2 _ wd_3_86) (fun _ h => h) d_sc_2 ?_
    refine rawS C (M := mJ3_ci) (n := 3) (As := [.int (nI i), .int (nI n), v]) hP hS0 hl.1 (ca_ci3 hi hn v hv σ l G) d_sc_5 wd_3_88 wd_3_89 wd_1_12 wd_3_90 (by decide +kernel) ⟨Nat.le_of_ble_eq_true rfl, Nat.le_of_ble_eq_true rfl⟩ rfl (Nat.le_of_ble_eq_true rfl) (fun r σ' H1 locs1 hr hP1 hS1 => ?_)
    obtain ⟨rfl, hr2⟩ := hr
    have hr2 := hr2.symm
    subst hr2
    refine lv_pop C.1.1 C.1.2.1 d_sc_8 rfl ?_
    exact W.vret C.1.1 C.1.2.1 (C.2.1 (by decide)).1 (fun t ht hW => ⟨⟨none, σ, rfl, ⟨rfl, rfl⟩, by rw [ht]; exact hP1⟩, hS1.F ht⟩) hS1.2.2 d_sc_9
  rcases (gS C).2.2.2.2.2 with hz | ⟨t, hz⟩
  · exact key _ (Or.inl rfl) hz
  · exact key _ (Or.inr ⟨t, rfl⟩) hz
theorem s_byt : ∀ k, k < 15 → ∀ i, i < sLen.getD k 0 → ∃ b, b < 123 ∧ 97 ≤ b ∧ (sByt.getD k []).getD i 0 = nI b ∧ nI b &&& 255 = nI b ∧ ((nI b).toUInt32 % 65536).toInt32 = nI b := by
  have h : ∀ k, k < 15 → ∀ i, i < sLen.getD k 0 → (((sByt.getD k []).getD i 0).toNatClampNeg < 123 ∧ 97 ≤ ((sByt.getD k []).getD i 0).toNatClampNeg ∧ (sByt.getD k []).getD i 0 = nI ((sByt.getD k []).getD i 0).toNatClampNeg) ∧ nI ((sByt.getD k []).getD i 0).toNatClampNeg &&& 255 = nI ((sByt.getD k []).getD i 0).toNatClampNeg ∧ ((nI ((sByt.getD k []).getD i 0).toNatClampNeg).toUInt32 % 65536).toInt32 = nI ((sByt.getD k []).getD i 0).toNatClampNeg := by decide +kernel
  exact fun k hk i hi => ⟨_, (h k hk i hi).1.1, (h k hk i hi).1.2.1, (h k hk i hi).1.2.2, (h k hk i hi).2⟩
theorem ca_lch {k i : Nat} (hk : k < 15) (hi : i < sLen.getD k 0) (σ : Sg) : Ca mJ1_charAt (fun G => [.ref (gV G k), .int (nI i)]) σ (Ex (some (.int ((sByt.getD k []).getD i 0))) σ) := by
  have := s_len k hk
  obtain ⟨b, b1, b0, eb, b2, b3⟩ := s_byt k hk i hi
  refine Ca_of (by decide +kernel) (fun G => Nat.le_of_ble_eq_true rfl) (fun l G p e s m below meth c C hP rls hl => ?_)
  have hlk := C.2.2.1
  have hS0 : va_S (Aw (ga G)) s.heap s.heap [] := va_S.rf
  have hE := (gS C).2.1.1 k hk
  refine lv_iload_n C.1.1 C.1.2.1 d_lc_0 rfl (lv_at hl 1 rfl) ?_
  refine lv_aload_n C.1.1 C.1.2.1 d_lc_1 rfl (lv_at hl 0 rfl) ?_
  refine va_tlen C.1.1 C.1.2.1 hE.2.2.2 hS0 (v := nI (sLen.getD k 0)) rfl d_lc_2 ?_
  refine rawS C (M := mJ0_ci) (n := 2) (As := [.int (nI i), .int (nI (sLen.getD k 0))]) (rest := []) hP hS0 hl.1 (ca_ci hi this σ l G) d_lc_3 wd_3_83 wd_3_84 wd_1_10 wd_3_85 (by decide +kernel) ⟨Nat.le_of_ble_eq_true rfl, Nat.le_of_ble_eq_true rfl⟩ rfl (Nat.le_of_ble_eq_true rfl) (fun r σ' H1 locs1 hr hP1 hS1 => ?_)
  obtain ⟨rfl, hr2⟩ := hr
  have hr2 := hr2.symm
  subst hr2
  refine lv_aload_n C.1.1 C.1.2.1 d_lc_6 rfl (lv_at hl 0 rfl) ?_
  refine lv_iload_n C.1.1 C.1.2.1 d_lc_7 rfl (lv_at hl 1 rfl) ?_
  refine va_tb C.1.1 C.1.2.1 hE.2.2.2 hS1 (nI_in hi (by omega)) (v := .int (nI b)) (by rw [nI_clamp (show i < 2 ^ 31 by omega), eb]) d_lc_8 ?_
  refine lv_sipush C.1.1 C.1.2.1 (v := 255) d_lc_9 (by decide) ?_
  refine lv_iand C.1.1 C.1.2.1 d_lc_12 ?_
  rw [b2]
  refine lv_i2c C.1.1 C.1.2.1 d_lc_13 b3 ?_
  rw [eb]
  exact W.zret (v := nI b) C.1.1 C.1.2.1 (C.2.1 (by decide)).1 (pk_charN (show b < 65536 by omega)).1 (fun t ht hW => ⟨⟨some (.int (nI b)), σ, rfl, ⟨rfl, rfl⟩, by rw [ht]; exact hP1⟩, hS1.F ht⟩) hS1.2.2 d_lc_14
theorem ct_chr {k i : Nat} (hk : k < 15) (hi : i < sLen.getD k 0) (σ : Sg) : Ct mJ0_charAt_5068e [.ref (60 + k), .int (nI i)] σ (Ex (some (.int ((sByt.getD k []).getD i 0))) σ) := by
  obtain ⟨b, b1, b0, eb, b2, b3⟩ := s_byt k hk i hi
  refine Ca_of (M := mJ0_charAt_5068e) (As := fun G => sM (ga G) [.ref (60 + k), .int (nI i)]) (by decide +kernel) (fun G => Nat.le_of_ble_eq_true rfl) (fun l G p e s m below meth c C hP rls hl => ?_)
  have hlk := C.2.2.1
  have hS0 : va_S (Aw (ga G)) s.heap s.heap [] := va_S.rf
  have hE := (gS C).2.1.1 k hk
  refine lv_aload_n C.1.1 C.1.2.1 d_ch_0 rfl (lv_at hl 0 rfl) ?_
  refine rawV C (M := mJ0_isLatin1) (n := 0) (C := "java/lang/String") (b := ga G (60 + k)) (As := []) (rest := []) hP hS0 hl.1 (ca_latin hk σ l G) d_ch_1 wd_3_76 wd_3_77 wd_3_78 wd_1_10 wd_3_79 (by decide +kernel) ⟨Nat.le_of_ble_eq_true rfl, Nat.le_of_ble_eq_true rfl⟩ (vk_recv (i := k) (gS C).2.1 hk hS0) rfl (Nat.le_of_ble_eq_true rfl) (fun r σ' H1 locs1 hr hP1 hS1 => ?_)
  obtain ⟨rfl, hr2⟩ := hr
  have hr2 := hr2.symm
  subst hr2
  refine lv_if_eq C.1.1 C.1.2.1 (tgt := 16) d_ch_4 (by decide) (fun q => absurd q (by decide)) (fun _ => ?_)
  refine lv_aload_n C.1.1 C.1.2.1 d_ch_7 rfl (lv_at hl 0 rfl) ?_
  refine vk_getf C.1.1 C.1.2.1 hE.2.2.1 hS1 C.1.2.2.2.1 (C.1.2.2.2.2 _ wd_6_34) (fun _ h => h) d_ch_8 ?_
  refine lv_iload_n C.1.1 C.1.2.1 d_ch_11 rfl (lv_at hl 1 rfl) ?_
  refine rawS C (M := mJ1_charAt) (n := 2) (As := [.ref (gV G k), .int (nI i)]) (rest := []) hP1 hS1 hl.1 (ca_lch hk hi σ l G) d_ch_12 wd_3_80 wd_3_81 wd_1_11 wd_3_82 (by decide +kernel) ⟨Nat.le_of_ble_eq_true rfl, Nat.le_of_ble_eq_true rfl⟩ rfl (Nat.le_of_ble_eq_true rfl) (fun r σ' H1 locs1 hr hP2 hS2 => ?_)
  obtain ⟨rfl, hr2⟩ := hr
  have hr2 := hr2.symm
  subst hr2
  rw [eb]
  exact W.zret (v := nI b) C.1.1 C.1.2.1 (C.2.1 (by decide)).1 (pk_charN (show b < 65536 by omega)).1 (fun t ht hW => ⟨⟨some (.int (nI b)), σ, rfl, ⟨rfl, rfl⟩, by rw [ht]; exact hP2⟩, hS2.F ht⟩) hS2.2.2 d_ch_15
