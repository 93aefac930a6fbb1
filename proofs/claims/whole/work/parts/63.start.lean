/-! THE CLAIM OUT OF ONE WALK OF THE LAW'S BODY. Your part is whole_start (and what it stands on); all else here is the same for every law, but numbers. -/
def R_law : String := "MovingMarketLaw"
def lw_P (b : Addr) (xs : List Int32) (args : Array Value) (s : State) : Prop := args = #[.ref b] ∧ s.IntsAt b xs ∧ xs.length ≤ 3072 ∧ (Jvm.Cond.and given_1 narrow_1).before args s = true
def lw_Q (_ : Array Value) (s : State) (o : Outcome) (t : State) : Prop := o = .returned (some (.int 1)) ∧ Framed s o t [] 600000 7302250
def lw_Z (below : List Frame) (a : Array Value) (s : State) : State → Prop := fun t => ∃ o, t.status = .running ∧ Ended t below o ∧ lw_Q a s o t
/-- the law's own end, with 1 on the stack, nothing written that was there before, its room as the claim has it -/
theorem lw_ret {p : Program} {l : Launch} {e : Env} {s : State} {m : MethodId} {below : List Frame} {meth : Method} {c : Code} {b : Nat} (hx : p.tables.exec = Jvm.exec) (hb : c.code = code) (hr : meth.sig.returnType = ret) (hlocks : meth.locks = false) {pc : Nat} {H : Heap} {ls : Array Slot} (hdg : decode code pc = .ok (.ireturn, 1)) : W p l e room_1 s m #[Value.ref b] below meth c H [] 600000 7302250 (lw_Z below #[Value.ref b] s) (F0 m pc ls [.int 1]) := by
  intro T hT X
  obtain ⟨fs, hret, hrun, hended, hW, hframe⟩ := X.leave (v := some (.int 1)) (hlocks := hlocks) (fun h => by rw [hr] at h; cases h)
  have hmeth' : T.vm.method? m = some meth := X.method'
  refine ⟨T.setFrames fs, ?_, .returned (some (.int 1)), hrun, hended, rfl, ⟨_, rfl⟩, hW, hframe⟩
  jvm_step X.here [X.here.top, hx, hb, hdg, hmeth', hr, ret, narrow_b1]
  (try refine ⟨rfl, ?_⟩); (try refine ⟨rfl, ?_⟩)
  first | (intro acts; rw [hret _ acts rfl rfl rfl]) | rw [hret _ _ rfl rfl rfl]
  exact Steps.refl _
/-- what holds at the law's entry: the machine, the code, the tables' words (any of lw_tbl by 'hts w (by decide +kernel)'), the script of L ints xs at the cell b, what the Statement gives of the start (any of its parts by flat_of_before) -/
def lw_At (p : Program) (s : State) (m : MethodId) (meth : Method) (c : Code) (b L : Nat) (xs : Nat → Int32) : Prop :=
  p.tables.exec = Jvm.exec ∧ c.code = code ∧ meth.sig.returnType = ret ∧ c.maxLocals = 4 ∧ s.vm.findClass R_law = some m.cls ∧ (∀ w ∈ lw_tbl, w.before #[Value.ref b] s = true) ∧ va_X b L xs s s.heap ∧ b < s.heap.size ∧ meth.locks = false ∧ (Jvm.Cond.and given_1 narrow_1).before #[Value.ref b] s = true
theorem d_L_0 : decode code 0 = .ok (.new 7, 3) := by decide +kernel
theorem d_L_3 : decode code 3 = .ok (.dup, 1) := by decide +kernel
theorem d_L_4 : decode code 4 = .ok (.invokespecial 9, 3) := by decide +kernel
theorem d_L_7 : decode code 7 = .ok (.astore_n 1, 1) := by decide +kernel
theorem d_L_8 : decode code 8 = .ok (.new 10, 3) := by decide +kernel
theorem d_L_11 : decode code 11 = .ok (.dup, 1) := by decide +kernel
theorem d_L_12 : decode code 12 = .ok (.invokespecial 12, 3) := by decide +kernel
theorem d_L_15 : decode code 15 = .ok (.astore_n 2, 1) := by decide +kernel
theorem d_L_16 : decode code 16 = .ok (.iconst 0, 1) := by decide +kernel
theorem d_L_17 : decode code 17 = .ok (.istore_n 3, 1) := by decide +kernel
theorem d_L_1666 : decode code 1666 = .ok (.iconst 1, 1) := by decide +kernel
theorem d_L_1667 : decode code 1667 = .ok (.ireturn, 1) := by decide +kernel
theorem GoodIn_A {y : MethodName} {b : ByteArray} {n : Nat} {r : Option FieldType} (hc : Cond.code y b n r ∈ AW) : GoodIn AW (.code y b n r :: AW) := by
  intro w hw
  rcases List.mem_cons.mp hw with rfl | h
  · exact ⟨hc, good_of_word (List.mem_filter.mp hc).2⟩
  · exact ⟨h, good_of_word (List.mem_filter.mp h).2⟩
/-- the addresses: the cells of the world, the statics' rows, the script, the String constants -/
def gaF (q0 : Nat) (u : Nat → Nat) (r0 : Nat) (v : Nat → Nat) (t56 t57 b : Nat) (adK : Nat → Nat) : Nat → Nat := fun i => match i with
  | 0 => q0
  | 45 => r0
  | 56 => t56
  | 57 => t57
  | 58 => b
  | i => if i < 45 then u i else if i < 56 then v (i - 46) else adK (i - 60)
theorem gaF_K {q0 : Nat} {u : Nat → Nat} {r0 : Nat} {v : Nat → Nat} {t56 t57 b : Nat} {adK : Nat → Nat} (k : Nat) : gaF q0 u r0 v t56 t57 b adK (60 + k) = adK k := by
  have e : 60 + k = (k + 59) + 1 := by omega
  unfold gaF
  split
  · omega
  · omega
  · omega
  · omega
  · omega
  · rw [if_neg (by omega), if_neg (by omega), show 60 + k - 60 = k by omega]
theorem sheets_f (a b c d : Nat) : va_up (va_up (va_up (va_up (fun _ => none) 0 (some a)) 1 (some b)) 2 (some c)) 3 (some d) = fun k => ([a, b, c, d] : List Nat)[k]? := by
  funext k
  match k with
  | 0 => rfl
  | 1 => rfl
  | 2 => rfl
  | 3 => rfl
  | k + 4 => rfl
theorem sheets_g (ad : Nat → Nat) : (fun k : Nat => ([ad 35, ad 37, ad 39, ad 41] : List Nat)[k]?) = fun k : Nat => (([35, 37, 39, 41] : List Nat)[k]?).map ad := by
  funext k
  match k with
  | 0 => rfl
  | 1 => rfl
  | 2 => rfl
  | 3 => rfl
  | k + 4 => rfl

abbrev wMkF (cI cS : ClassId) (h0 : Nat) (u : Nat → Nat) (f : Nat → Option Nat) : va_W := [(h0, .inr (4, [.ref (u 1), .ref (u 10), .ref (u 19), .ref (u 28), .ref (u 30), .ref (u 32), .ref (u 34), .ref (u 43), .ref (u 44), .int 0])), (u 1, .inr (2, [.ref (u 2), .ref (u 3), .ref (u 4), .ref (u 5), .ref (u 6), .ref (u 7), .ref (u 8), .ref (u 9), .int 0, .int 0, .int 0, .int 1])), (u 2, .inl (cI, 12, .inl (fl 12 3 (fun _ => 0)))), (u 3, .inl (cI, 12, .inl (fun _ => 0))), (u 4, .inl (cI, 8, .inl (fun _ => 0))), (u 5, .inl (cI, 8, .inl (fun _ => 0))), (u 6, .inl (cI, 8, .inl (fun _ => 0))), (u 7, .inl (cI, 8, .inl (fun _ => 0))), (u 8, .inl (cI, 8, .inl (fun _ => 0))), (u 9, .inl (cI, 10, .inl (fl 10 (-1) (fun _ => 0)))), (u 10, .inr (2, [.ref (u 11), .ref (u 12), .ref (u 13), .ref (u 14), .ref (u 15), .ref (u 16), .ref (u 17), .ref (u 18), .int 0, .int 0, .int 0, .int 1])), (u 11, .inl (cI, 12, .inl (fl 12 3 (fun _ => 0)))), (u 12, .inl (cI, 12, .inl (fun _ => 0))), (u 13, .inl (cI, 8, .inl (fun _ => 0))), (u 14, .inl (cI, 8, .inl (fun _ => 0))), (u 15, .inl (cI, 8, .inl (fun _ => 0))), (u 16, .inl (cI, 8, .inl (fun _ => 0))), (u 17, .inl (cI, 8, .inl (fun _ => 0))), (u 18, .inl (cI, 10, .inl (fl 10 (-1) (fun _ => 0)))), (u 19, .inr (2, [.ref (u 20), .ref (u 21), .ref (u 22), .ref (u 23), .ref (u 24), .ref (u 25), .ref (u 26), .ref (u 27), .int 0, .int 0, .int 0, .int 1])), (u 20, .inl (cI, 12, .inl (fl 12 3 (fun _ => 0)))), (u 21, .inl (cI, 12, .inl (fun _ => 0))), (u 22, .inl (cI, 8, .inl (fun _ => 0))), (u 23, .inl (cI, 8, .inl (fun _ => 0))), (u 24, .inl (cI, 8, .inl (fun _ => 0))), (u 25, .inl (cI, 8, .inl (fun _ => 0))), (u 26, .inl (cI, 8, .inl (fun _ => 0))), (u 27, .inl (cI, 10, .inl (fl 10 (-1) (fun _ => 0)))), (u 28, .inr (0, [.ref (u 29), .int 0])), (u 29, .inl (cI, 8, .inl (fun _ => 0))), (u 30, .inr (0, [.ref (u 31), .int 0])), (u 31, .inl (cI, 8, .inl (fun _ => 0))), (u 32, .inr (3, [.ref (u 33), .int 0, .int 0, .int 0, .int 0, .int 0])), (u 33, .inl (cI, 120, .inl (fun _ => 0))), (u 34, .inl (cS, 4, .inr (.inr (.inr (.inr f))))), (u 35, .inr (1, [.ref (u 36), .int 0, .int 0])), (u 36, .inl (cI, 40, .inl (fun _ => 0))), (u 37, .inr (1, [.ref (u 38), .int 0, .int 0])), (u 38, .inl (cI, 40, .inl (fun _ => 0))), (u 39, .inr (1, [.ref (u 40), .int 0, .int 0])), (u 40, .inl (cI, 40, .inl (fun _ => 0))), (u 41, .inr (1, [.ref (u 42), .int 0, .int 0])), (u 42, .inl (cI, 40, .inl (fun _ => 0))), (u 43, .inl (cI, 8, .inl (fun _ => 0))), (u 44, .inl (cI, 7, .inl (fun _ => 0)))]
set_option maxHeartbeats 4000000 in
set_option maxRecDepth 100000 in
/-- the two new systems are the world, at the first ints -/
theorem wW_0 (D : va_G) (cI cS : ClassId) (q0 : Nat) (u : Nat → Nat) (r0 : Nat) (v : Nat → Nat) (t56 t57 b : Nat) (adK adV : Nat → Nat) : wMk0 cI cS q0 u ++ wMd0 cI (fM 12 10) r0 v = wW (D, cI, cS, gaF q0 u r0 v t56 t57 b adK, adV) sg0 := by
  have e : wMk0 cI cS q0 u = wMkF cI cS q0 u (fun k => (([35, 37, 39, 41] : List Nat)[k]?).map (gaF q0 u r0 v t56 t57 b adK)) := by
    have e1 := sheets_g (gaF q0 u r0 v t56 t57 b adK)
    have e2 : va_up (va_up (va_up (va_up (fun _ => none) 0 (some (u 35))) 1 (some (u 37))) 2 (some (u 39))) 3 (some (u 41)) = fun k => (([35, 37, 39, 41] : List Nat)[k]?).map (gaF q0 u r0 v t56 t57 b adK) := (sheets_f _ _ _ _).trans e1
    show wMkF cI cS q0 u (va_up (va_up (va_up (va_up (fun _ => none) 0 (some (u 35))) 1 (some (u 37))) 2 (some (u 39))) 3 (some (u 41))) = _
    rw [e2]
  rw [e]
  rfl
set_option maxHeartbeats 4000000 in
set_option maxRecDepth 100000 in
/-- THE LAW, from its entry -/
theorem whole_start {p : Program} {e : Env} {s : State} {m : MethodId} {below : List Frame} {meth : Method} {c : Code} (l : Launch) (hflags : l.flags = flags0) {b L : Nat} {xs : Nat → Int32} (hL : L ≤ 3072) (C0 : lw_At p s m meth c b L xs) : W p l e room_1 s m #[Value.ref b] below meth c s.heap [] 0 0 (lw_Z below #[Value.ref b] s) (entryFrame m ([Value.ref b] : List Value).toArray 4) := by
  obtain ⟨hx, hb, hr, hml, hown, hts, hX, hbl, hlocks, hgv⟩ := id C0
  obtain ⟨A, hAe⟩ : ∃ A : Nat → Prop, A = fun q : Nat => s.heap.size ≤ q := ⟨_, rfl⟩
  have hA : ∀ q : Nat, s.heap.size ≤ q → A q := fun q h => by rw [hAe]; exact h
  have hA2 : ∀ q : Nat, A q → s.heap.size ≤ q := fun q h => by rw [hAe] at h; exact h
  have hnA : ∀ a : Nat, a < s.heap.size → ¬ A a := fun a h q => absurd (hA2 a q) (by omega)
  have hAW : ∀ w ∈ AW, w.before #[Value.ref b] s = true := fun w h => hts w (List.mem_filter.mp h).1
  obtain ⟨c0, i0, k0⟩ := u_known (C := RX0) (T := TX0) (N := 2) (n := 2) hAW awX0 (hAW _ wd_1_87)
  obtain ⟨c1, i1, k1⟩ := u_known (C := RX1) (T := TX1) (N := 3) (n := 3) hAW awX1 (hAW _ wd_1_128)
  obtain ⟨c2, i2, k2⟩ := u_known (C := RX2) (T := TX2) (N := 12) (n := 12) hAW awX2 (hAW _ wd_1_23)
  obtain ⟨c3, i3, k3⟩ := u_known (C := RX3) (T := TX3) (N := 6) (n := 6) hAW awX3 (hAW _ wd_1_101)
  obtain ⟨c4, i4, k4⟩ := u_known (C := RX4) (T := TX4) (N := 10) (n := 10) hAW awX4 (hAW _ wd_1_15)
  obtain ⟨c5, i5, k5⟩ := u_known (C := RX5) (T := TX5) (N := 17) (n := 17) hAW awX5 (hAW _ wd_4_7)
  obtain ⟨D, hKc⟩ : ∃ D : va_G, ∀ (k : Nat) (q : vw_C), vwCl[k]? = some q → u_Kn s q.1 q.2.1 q.2.2 (D.1 k) (D.2 k) := by
    refine ⟨(fun k => match k with | 0 => c0 | 1 => c1 | 2 => c2 | 3 => c3 | 4 => c4 | _ => c5, fun k => match k with | 0 => i0 | 1 => i1 | 2 => i2 | 3 => i3 | 4 => i4 | _ => i5), ?_⟩
    intro k q hq
    match k, hq with
    | 0, hq => cases hq; exact k0
    | 1, hq => cases hq; exact k1
    | 2, hq => cases hq; exact k2
    | 3, hq => cases hq; exact k3
    | 4, hq => cases hq; exact k4
    | 5, hq => cases hq; exact k5
    | k + 6, hq => simp [vwCl] at hq
  obtain ⟨cI, kI, compI, hI1, hI2, hI3⟩ := Cond.arrayClass_spec (hts _ tbAC)
  obtain ⟨compS, cS, kS, hS1, hS2, hS3, hS4, hS5⟩ := Cond.arrayOver_spec (hts _ tbAO)
  have hK : va_K D vwCl (tW cI cS) s := by
    refine ⟨hKc, fun k q h => ?_⟩
    match k, h with
    | 0, h => cases h; exact ⟨fun n z => ⟨fun k h => (by cases h), kI, hI2, compI, hI3⟩, hI1⟩
    | 1, h => cases h; exact ⟨fun n z => ⟨fun k h => (by cases h), kS, hS3, compS, hS4⟩, kS, compS, hS3, hS4, hS1, hS5⟩
    | k + 2, h => simp at h
  have hXN : XN s := ⟨va_Nw.of rfl (hts _ tbnO), va_Nw.of rfl (hts _ tbnT), va_Nw.of rfl (hts _ tbnS), va_AO.of (hts _ tbAO)⟩
  obtain ⟨t56, t57, e56, e57⟩ := law_rows hgv
  obtain ⟨adK, adV, hSt, hStr⟩ := law_strs (A := A) hgv hnA
  have hS : va_S A s.heap s.heap [] := va_S.rf
  have hP : va_P D vwCl [] s.heap := fun k q h => by simp at h
  have hD : va_D A [] := ⟨fun i j p q h => by simp at h, fun k q h => by simp at h⟩
  have hl := lv_entry ([.ref b]) (n := 4) (Nat.le_of_ble_eq_true rfl)
  rw [lg_entry_eq]
  generalize (lg_sl ([.ref b]) ++ List.replicate (4 - (lg_sl ([.ref b])).length) Slot.unset).toArray = ls at hl ⊢
  have hl : lv_has ls 4 [(0, .ref b)] := hl
  refine va_new (D := D) (ci := 4) (fs := [.null, .null, .null, .null, .null, .null, .null, .null, .null, .int 0]) (C := RX4) (T := TX4) (N := 10) hx hb hAW awX4 tyX4 tyX4_ok hown (hAW _ wd_1_14) (hAW _ wd_1_15) (hAW _ wd_1_1) hK hP hD hS hA rfl dfX4 (Nat.le_of_ble_eq_true rfl) (Nat.le_of_ble_eq_true rfl) d_L_0 (fun q0 H hP hD hS => ?_)
  have hP : va_P D vwCl [(q0, .inr (4, [.null, .null, .null, .null, .null, .null, .null, .null, .null, .int 0]))] H := hP
  have hD : va_D A [(q0, .inr (4, [.null, .null, .null, .null, .null, .null, .null, .null, .null, .int 0]))] := hD
  refine lv_dup hx hb d_L_3 rfl ?_
  refine callB (wc := [(q0, .inr (4, [.null, .null, .null, .null, .null, .null, .null, .null, .null, .int 0]))]) (wr := []) (va_runI (As := []) (rest := [.ref q0]) ⟨hx, hb, hml, hown, hAW⟩ (c_i4 l D cI cS q0 H.size) (cwI 0 hAW (GoodIn_A wd_1_18) rfl rfl rfl (hAW _ wd_1_1) (hAW _ wd_1_16) (hAW _ wd_1_17) rfl (by decide +kernel) ⟨Nat.le_of_ble_eq_true rfl, Nat.le_of_ble_eq_true rfl⟩) (PiX_pre hP hK hD hXN) rfl rfl hl.1 rfl (lv_room (Nat.le_of_ble_eq_true rfl)) d_L_4 ⟨Nat.le_of_ble_eq_true rfl, Nat.le_of_ble_eq_true rfl⟩) hP hD hS hA [0] [] rfl rfl (by decide) (by decide) (fun u H locs _ hP hD hS => ?_)
  have hP : va_P D vwCl (wMk0 cI cS q0 u) H := hP
  have hD : va_D A (wMk0 cI cS q0 u) := hD
  refine lv_astore_n (lv' := [(1, .ref q0), (0, .ref b)]) hx hb d_L_7 rfl hl (by decide) rfl (fun ls hl => ?_)
  refine va_new (D := D) (ci := 5) (fs := [.null, .null, .null, .null, .int 0, .null, .int 0, .null, .int 0, .int 0, .int 0, .int 0, .int 0, .null, .null, .null, .null]) (C := RX5) (T := TX5) (N := 17) hx hb hAW awX5 tyX5 tyX5_ok hown (hAW _ wd_4_6) (hAW _ wd_4_7) (hAW _ wd_1_7) hK hP hD hS hA rfl dfX5 (Nat.le_of_ble_eq_true rfl) (Nat.le_of_ble_eq_true rfl) d_L_8 (fun r0 H hP hD hS => ?_)
  refine lv_dup hx hb d_L_11 rfl ?_
  have hPc := hP.sub (ws' := [(r0, .inr (5, [.null, .null, .null, .null, .int 0, .null, .int 0, .null, .int 0, .int 0, .int 0, .int 0, .int 0, .null, .null, .null, .null]))]) [45] rfl
  have hDc := hD.sub (ws' := [(r0, .inr (5, [.null, .null, .null, .null, .int 0, .null, .int 0, .null, .int 0, .int 0, .int 0, .int 0, .int 0, .null, .null, .null, .null]))]) [45] (by decide) rfl
  refine callB (wc := [(r0, .inr (5, [.null, .null, .null, .null, .int 0, .null, .int 0, .null, .int 0, .int 0, .int 0, .int 0, .int 0, .null, .null, .null, .null]))]) (wr := wMk0 cI cS q0 u) (va_runI (As := []) (rest := [.ref r0]) ⟨hx, hb, hml, hown, hAW⟩ (c_i5 l D cI cS r0 H.size) (cwI 0 hAW (GoodIn_A wd_4_10) rfl rfl rfl (hAW _ wd_1_7) (hAW _ wd_4_8) (hAW _ wd_4_9) rfl (by decide +kernel) ⟨Nat.le_of_ble_eq_true rfl, Nat.le_of_ble_eq_true rfl⟩) (Pi_pre hPc hK hDc) rfl rfl hl.1 rfl (lv_room (Nat.le_of_ble_eq_true rfl)) d_L_12 ⟨Nat.le_of_ble_eq_true rfl, Nat.le_of_ble_eq_true rfl⟩) hP hD hS hA [45] [0, 1, 2, 3, 4, 5, 6, 7, 8, 9, 10, 11, 12, 13, 14, 15, 16, 17, 18, 19, 20, 21, 22, 23, 24, 25, 26, 27, 28, 29, 30, 31, 32, 33, 34, 35, 36, 37, 38, 39, 40, 41, 42, 43, 44] rfl rfl (by decide) (by decide) (fun v H locs _ hP hD hS => ?_)
  refine lv_astore_n (lv' := [(2, .ref r0), (1, .ref q0), (0, .ref b)]) hx hb d_L_15 rfl hl (by decide) rfl (fun ls hl => ?_)
  refine lv_iconst (v := nI 0) hx hb d_L_16 (by decide) ?_
  refine lv_istore_n (lv' := [(3, .int (nI 0)), (2, .ref r0), (1, .ref q0), (0, .ref b)]) hx hb d_L_17 rfl hl (by decide) rfl (fun ls hl => ?_)
  refine W.widen (k := 600000) (n := 7302250) (Nat.le_of_ble_eq_true rfl) (Nat.le_of_ble_eq_true rfl) ?_
  obtain ⟨G, hG⟩ : ∃ G : Gt, G = (D, cI, cS, gaF q0 u r0 v t56 t57 b adK, adV) := ⟨_, rfl⟩
  rw [wW_0 D cI cS q0 u r0 v t56 t57 b adK adV, ← hG] at hP hD
  have gK : va_K G.1 vwCl (tyW G) s := by rw [hG]; exact hK
  have gP : wP G sg0 H := by
    show va_P G.1 vwCl (wW G sg0) H
    have : G.1 = D := by rw [hG]
    rw [this]
    exact hP
  have g0 : ga G 0 = q0 := by rw [hG]; rfl
  have g45 : ga G 45 = r0 := by rw [hG]; rfl
  have g58 : ga G 58 = b := by rw [hG]; rfl
  have gI : Inj (ga G) := fun i j hi hj hij => hD.1 i j _ _ (wW_at (List.getElem?_eq_getElem (show i < shL.length from hi))) (wW_at (List.getElem?_eq_getElem (show j < shL.length from hj))) hij
  have gA : ∀ q, Aw (ga G) q → A q := by
    rintro q ⟨i, hi, rfl⟩
    exact hD.2 i _ (wW_at (List.getElem?_eq_getElem (show i < shL.length from hi)))
  have gG : GLb G A s s.heap := law_given (adK := adK) (adV := adV) hts hgv hnA (by rw [show ga G 56 = t56 by rw [hG]; rfl]; exact e56) (by rw [show ga G 57 = t57 by rw [hG]; rfl]; exact e57) (fun k => by rw [hG]; exact gaF_K k) (by rw [hG]; rfl) hSt hStr
  have C : Cx (some (L, xs)) RL cL_law 4 lawRet room_1 G (fun _ _ => True) A 600000 7302250 p e room_1 s m #[Value.ref b] below meth c (lw_Z below #[Value.ref b] s) :=
    ⟨⟨hx, hb, hml, hown, hAW⟩, fun h => absurd rfl h, hlocks, ⟨gK, gI, gG⟩, rfl, gA, ⟨Nat.le_of_ble_eq_true rfl, Nat.le_of_ble_eq_true rfl⟩, fun L' xs' h => by
      cases h
      rw [g58]
      exact ⟨hX, hbl, hnA b hbl⟩⟩
  have go : GoL L xs (fun _ _ => True) (Wm 4 G A 600000 7302250 p l e room_1 s m #[Value.ref b] below meth c (lw_Z below #[Value.ref b] s)) := fun cd hcd => ⟨fun _ n pc ls st σ hh => wp_sound hcd C (fun _ _ _ _ h => h) n pc ls st σ hh, fun is pc ls st σ hh H locs rls hP hS hl => hh H locs rls hP hS ⟨hl.1, hl.2.1, fun q hq => hl.2.2 q (by
    obtain ⟨q0, h0, rfl⟩ := List.mem_map.mp hq
    exact List.mem_map.mpr ⟨q0, (List.mem_filter.mp h0).1, rfl⟩)⟩⟩
  have hend : ∀ k σ, Wm 4 G A 600000 7302250 p l e room_1 s m #[Value.ref b] below meth c (lw_Z below #[Value.ref b] s) 1666 (lvL k) [] σ := by
    intro k σ H locs rls hP hS hl
    refine lv_iconst (v := 1) hx hb d_L_1666 (by decide) ?_
    refine va_forget (fun q hq => hA2 _ (hS.2.2 q hq)) ?_
    exact lw_ret hx hb hr hlocks d_L_1667
  refine law_loopA go hL hend L 0 sg0 (by omega) (by omega) J_0 H locs ls gP hS ?_
  show lv_has ls 4 [(0, .ref (ga G 58)), (1, .ref (ga G 0)), (2, .ref (ga G 45)), (3, .int (nI (6 * 0)))]
  rw [g0, g45, g58]
  exact lv_sub hl [3, 2, 1, 0] rfl
