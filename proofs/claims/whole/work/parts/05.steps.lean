/-! STEP FUNCTIONS, each right -/
def lget : Lcs → Nat → Option Value
  | [], _ => none
  | (j, v) :: t, i => bif Nat.beq j i then some v else lget t i
theorem lget_mem : ∀ (ls : Lcs) (i : Nat) (v : Value), lget ls i = some v → (i, v) ∈ ls
  | [], _, _, h => by cases h
  | (j, w) :: t, i, v, h => by
    unfold lget at h
    cases hb : Nat.beq j i with
    | true =>
      rw [hb] at h
      have hj : j = i := Nat.eq_of_beq_eq_true hb
      subst hj
      cases h
      exact List.mem_cons_self
    | false =>
      rw [hb] at h
      exact List.mem_cons_of_mem _ (lget_mem t i v h)
theorem lget_at {ad : Nat → Nat} {rls : Array Slot} {nL : Nat} {ls : Lcs} {i : Nat} {v : Value} (h : lv_has rls nL (lM ad ls)) (hv : lget ls i = some v) : rls[i]? = some (.val (vM ad v)) :=
  h.2.2 (i, vM ad v) (List.mem_map.mpr ⟨(i, v), lget_mem ls i v hv, rfl⟩)
def lins (i : Nat) (v : Value) : Lcs → Lcs
  | [] => [(i, v)]
  | (j, w) :: t => bif Nat.ble j i then (j, w) :: lins i v t else (i, v) :: (j, w) :: t
def lset (ls : Lcs) (i : Nat) (v : Value) : Lcs := lins i v (ls.filter (fun q => !(Nat.beq q.1 i) && !(Nat.beq (q.1 + 1) i && Nat.beq q.2.category 2)))
def lset2 (ls : Lcs) (i : Nat) (v : Value) : Lcs := lins i v (ls.filter (fun q => !(Nat.beq q.1 i) && (!(Nat.beq q.1 (i + 1)) && !(Nat.beq (q.1 + 1) i && Nat.beq q.2.category 2))))
theorem lins_mem {i : Nat} {v : Value} : ∀ (l : Lcs) (q : Nat × Value), q ∈ lins i v l → q = (i, v) ∨ q ∈ l
  | [], q, h => Or.inl (List.mem_singleton.mp h)
  | (j, w) :: t, q, h => by
    unfold lins at h
    cases hb : Nat.ble j i with
    | true =>
      rw [hb] at h
      rcases List.mem_cons.mp h with rfl | h
      · exact Or.inr List.mem_cons_self
      · rcases lins_mem t q h with h | h
        · exact Or.inl h
        · exact Or.inr (List.mem_cons_of_mem _ h)
    | false =>
      rw [hb] at h
      rcases List.mem_cons.mp h with rfl | h
      · exact Or.inl rfl
      · exact Or.inr h
theorem nbeq (a b : Nat) : Nat.beq a b = (a == b) := by
  rw [Bool.eq_iff_iff, beq_iff_eq]
  exact ⟨Nat.eq_of_beq_eq_true, fun h => by rw [h]; exact Nat.beq_refl b⟩
theorem lset_has {ad : Nat → Nat} {rls : Array Slot} {nL : Nat} {ls : Lcs} {i : Nat} {v : Value} (h : lv_has rls nL ((i, vM ad v) :: (lM ad ls).filter (fun q => !(q.1 == i) && !(q.1 + 1 == i && q.2.category == 2)))) : lv_has rls nL (lM ad (lset ls i v)) := by
  refine ⟨h.1, h.2.1, fun q hq => h.2.2 q ?_⟩
  obtain ⟨q0, h0, rfl⟩ := List.mem_map.mp hq
  rcases lins_mem _ _ h0 with rfl | h1
  · exact List.mem_cons_self
  · obtain ⟨h2, h3⟩ := List.mem_filter.mp h1
    refine List.mem_cons_of_mem _ (List.mem_filter.mpr ⟨List.mem_map.mpr ⟨q0, h2, rfl⟩, ?_⟩)
    simp only [nbeq] at h3
    simp only [vM_cat]
    exact h3
theorem lset2_has {ad : Nat → Nat} {rls : Array Slot} {nL : Nat} {ls : Lcs} {i : Nat} {v : Value} (h : lv_has rls nL ((i, vM ad v) :: (lM ad ls).filter (fun q => !(q.1 == i) && (!(q.1 == i + 1) && !(q.1 + 1 == i && q.2.category == 2))))) : lv_has rls nL (lM ad (lset2 ls i v)) := by
  refine ⟨h.1, h.2.1, fun q hq => h.2.2 q ?_⟩
  obtain ⟨q0, h0, rfl⟩ := List.mem_map.mp hq
  rcases lins_mem _ _ h0 with rfl | h1
  · exact List.mem_cons_self
  · obtain ⟨h2, h3⟩ := List.mem_filter.mp h1
    refine List.mem_cons_of_mem _ (List.mem_filter.mpr ⟨List.mem_map.mpr ⟨q0, h2, rfl⟩, ?_⟩)
    simp only [nbeq] at h3
    simp only [vM_cat]
    exact h3
section ST
variable {scr : Scr} {own : String} {cc : ByteArray} {nL : Nat} {ret : Option FieldType} {R0 : Room} {pc : Nat}
def s_pushi (v : Int32) (nx : Nat) : Stf := fun k _ ls st σ => k nx ls (.int v :: st) σ
theorem z_iconst {n : Int} {v : Int32} (hd : decode cc pc = .ok (.iconst n, 1)) (hv : Int32.ofInt n = v) : SndG scr own cc nL ret R0 pc (s_pushi v (pc + 1)) := by
  intro G rt A cells slots p l e R s m args below meth c Q C k hk ls st σ h H locs rls hP hS hl
  exact lv_iconst C.1.1 C.1.2.1 hd hv (hk _ _ _ _ h H locs rls hP hS hl)
theorem z_bipush {n : Int} {v : Int32} (hd : decode cc pc = .ok (.bipush n, 2)) (hv : (Int8.ofInt n).toInt32 = v) : SndG scr own cc nL ret R0 pc (s_pushi v (pc + 2)) := by
  intro G rt A cells slots p l e R s m args below meth c Q C k hk ls st σ h H locs rls hP hS hl
  exact lv_bipush C.1.1 C.1.2.1 hd hv (hk _ _ _ _ h H locs rls hP hS hl)
theorem z_sipush {n : Int} {v : Int32} (hd : decode cc pc = .ok (.sipush n, 3)) (hv : (Int16.ofInt n).toInt32 = v) : SndG scr own cc nL ret R0 pc (s_pushi v (pc + 3)) := by
  intro G rt A cells slots p l e R s m args below meth c Q C k hk ls st σ h H locs rls hP hS hl
  exact lv_sipush C.1.1 C.1.2.1 hd hv (hk _ _ _ _ h H locs rls hP hS hl)
theorem z_ldc {i : Nat} {v : Int32} (hd : decode cc pc = .ok (.ldc i, 2)) (hw : Cond.constant own i v ∈ AW) : SndG scr own cc nL ret R0 pc (s_pushi v (pc + 2)) := by
  intro G rt A cells slots p l e R s m args below meth c Q C k hk ls st σ h H locs rls hP hS hl
  exact lv_ldc C.1.1 C.1.2.1 C.1.2.2.2.1 (C.1.2.2.2.2 _ hw) hd (hk _ _ _ _ h H locs rls hP hS hl)
theorem z_ldcw {i : Nat} {v : Int32} (hd : decode cc pc = .ok (.ldc_w i, 3)) (hw : Cond.constant own i v ∈ AW) : SndG scr own cc nL ret R0 pc (s_pushi v (pc + 3)) := by
  intro G rt A cells slots p l e R s m args below meth c Q C k hk ls st σ h H locs rls hP hS hl
  exact lv_ldcw C.1.1 C.1.2.1 C.1.2.2.2.1 (C.1.2.2.2.2 _ hw) hd (hk _ _ _ _ h H locs rls hP hS hl)
def s_pushl (v : Int64) (nx : Nat) : Stf := fun k _ ls st σ => k nx ls (.long v :: st) σ
theorem z_lconst {n : Fin 2} {v : Int64} (hd : decode cc pc = .ok (.lconst n, 1)) (hv : Int64.ofNat (n : Nat) = v) : SndG scr own cc nL ret R0 pc (s_pushl v (pc + 1)) := by
  intro G rt A cells slots p l e R s m args below meth c Q C k hk ls st σ h H locs rls hP hS hl
  exact lv_lconst C.1.1 C.1.2.1 hd hv (hk _ _ _ _ h H locs rls hP hS hl)
theorem z_ldc2 {i : Nat} {v : Int64} (hd : decode cc pc = .ok (.ldc2_w i, 3)) (hw : Cond.constantLong own i v ∈ AW) : SndG scr own cc nL ret R0 pc (s_pushl v (pc + 3)) := by
  intro G rt A cells slots p l e R s m args below meth c Q C k hk ls st σ h H locs rls hP hS hl
  exact lv_ldc2 C.1.1 C.1.2.1 C.1.2.2.2.1 (C.1.2.2.2.2 _ hw) hd (hk _ _ _ _ h H locs rls hP hS hl)
def s_iload (i nx : Nat) : Stf := fun k _ ls st σ => match lget ls i with
  | some (.int x) => k nx ls (.int x :: st) σ
  | _ => False
theorem z_iload_n {j : Fin 4} {i : Nat} (hd : decode cc pc = .ok (.iload_n j, 1)) (hi : (j : Nat) = i) : SndG scr own cc nL ret R0 pc (s_iload i (pc + 1)) := by
  intro G rt A cells slots p l e R s m args below meth c Q C k hk ls st σ h H locs rls hP hS hl
  unfold s_iload at h
  split at h
  · rename_i x hx
    exact lv_iload_n C.1.1 C.1.2.1 hd hi (lget_at hl hx) (hk _ _ _ _ h H locs rls hP hS hl)
  · exact h.elim
theorem z_iload {i : Nat} (hd : decode cc pc = .ok (.iload i, 2)) : SndG scr own cc nL ret R0 pc (s_iload i (pc + 2)) := by
  intro G rt A cells slots p l e R s m args below meth c Q C k hk ls st σ h H locs rls hP hS hl
  unfold s_iload at h
  split at h
  · rename_i x hx
    exact lv_iload C.1.1 C.1.2.1 hd (lget_at hl hx) (hk _ _ _ _ h H locs rls hP hS hl)
  · exact h.elim
def s_lload (i nx : Nat) : Stf := fun k _ ls st σ => match lget ls i with
  | some (.long x) => k nx ls (.long x :: st) σ
  | _ => False
theorem z_lload_n {j : Fin 4} {i : Nat} (hd : decode cc pc = .ok (.lload_n j, 1)) (hi : (j : Nat) = i) : SndG scr own cc nL ret R0 pc (s_lload i (pc + 1)) := by
  intro G rt A cells slots p l e R s m args below meth c Q C k hk ls st σ h H locs rls hP hS hl
  unfold s_lload at h
  split at h
  · rename_i x hx
    exact lv_lload_n C.1.1 C.1.2.1 hd hi (lget_at hl hx) (hk _ _ _ _ h H locs rls hP hS hl)
  · exact h.elim
theorem z_lload {i : Nat} (hd : decode cc pc = .ok (.lload i, 2)) : SndG scr own cc nL ret R0 pc (s_lload i (pc + 2)) := by
  intro G rt A cells slots p l e R s m args below meth c Q C k hk ls st σ h H locs rls hP hS hl
  unfold s_lload at h
  split at h
  · rename_i x hx
    exact lv_lload C.1.1 C.1.2.1 hd (lget_at hl hx) (hk _ _ _ _ h H locs rls hP hS hl)
  · exact h.elim
def s_aload (i nx : Nat) : Stf := fun k _ ls st σ => match lget ls i with
  | some (.ref x) => k nx ls (.ref x :: st) σ
  | _ => False
theorem z_aload_n {j : Fin 4} {i : Nat} (hd : decode cc pc = .ok (.aload_n j, 1)) (hi : (j : Nat) = i) : SndG scr own cc nL ret R0 pc (s_aload i (pc + 1)) := by
  intro G rt A cells slots p l e R s m args below meth c Q C k hk ls st σ h H locs rls hP hS hl
  unfold s_aload at h
  split at h
  · rename_i x hx
    exact lv_aload_n C.1.1 C.1.2.1 hd hi (lget_at hl hx) (hk _ _ _ _ h H locs rls hP hS hl)
  · exact h.elim
theorem z_aload {i : Nat} (hd : decode cc pc = .ok (.aload i, 2)) : SndG scr own cc nL ret R0 pc (s_aload i (pc + 2)) := by
  intro G rt A cells slots p l e R s m args below meth c Q C k hk ls st σ h H locs rls hP hS hl
  unfold s_aload at h
  split at h
  · rename_i x hx
    exact lv_aload C.1.1 C.1.2.1 hd (lget_at hl hx) (hk _ _ _ _ h H locs rls hP hS hl)
  · exact h.elim
def s_istore (i nx : Nat) : Stf := fun k _ ls st σ => match st with
  | .int x :: r => k nx (lset ls i (.int x)) r σ
  | _ => False
theorem z_istore_n {j : Fin 4} {i : Nat} (hd : decode cc pc = .ok (.istore_n j, 1)) (hi : (j : Nat) = i) (hn : i < nL) : SndG scr own cc nL ret R0 pc (s_istore i (pc + 1)) := by
  intro G rt A cells slots p l e R s m args below meth c Q C k hk ls st σ h H locs rls hP hS hl
  unfold s_istore at h
  split at h
  · exact lv_istore_n C.1.1 C.1.2.1 hd hi hl hn rfl (fun rls' hl' => hk _ _ _ _ h H locs rls' hP hS (lset_has (v := .int _) hl'))
  · exact h.elim
theorem z_istore {i : Nat} (hd : decode cc pc = .ok (.istore i, 2)) (hn : i < nL) : SndG scr own cc nL ret R0 pc (s_istore i (pc + 2)) := by
  intro G rt A cells slots p l e R s m args below meth c Q C k hk ls st σ h H locs rls hP hS hl
  unfold s_istore at h
  split at h
  · exact lv_istore C.1.1 C.1.2.1 hd hl hn rfl (fun rls' hl' => hk _ _ _ _ h H locs rls' hP hS (lset_has (v := .int _) hl'))
  · exact h.elim
def s_lstore (i nx : Nat) : Stf := fun k _ ls st σ => match st with
  | .long x :: r => k nx (lset2 ls i (.long x)) r σ
  | _ => False
theorem z_lstore_n {j : Fin 4} {i : Nat} (hd : decode cc pc = .ok (.lstore_n j, 1)) (hi : (j : Nat) = i) (hn : i + 1 < nL) : SndG scr own cc nL ret R0 pc (s_lstore i (pc + 1)) := by
  intro G rt A cells slots p l e R s m args below meth c Q C k hk ls st σ h H locs rls hP hS hl
  unfold s_lstore at h
  split at h
  · exact lv_lstore_n C.1.1 C.1.2.1 hd hi hl hn rfl (fun rls' hl' => hk _ _ _ _ h H locs rls' hP hS (lset2_has (v := .long _) hl'))
  · exact h.elim
def s_astore (i nx : Nat) : Stf := fun k _ ls st σ => match st with
  | .ref x :: r => k nx (lset ls i (.ref x)) r σ
  | _ => False
theorem z_astore_n {j : Fin 4} {i : Nat} (hd : decode cc pc = .ok (.astore_n j, 1)) (hi : (j : Nat) = i) (hn : i < nL) : SndG scr own cc nL ret R0 pc (s_astore i (pc + 1)) := by
  intro G rt A cells slots p l e R s m args below meth c Q C k hk ls st σ h H locs rls hP hS hl
  unfold s_astore at h
  split at h
  · exact lv_astore_n C.1.1 C.1.2.1 hd hi hl hn rfl (fun rls' hl' => hk _ _ _ _ h H locs rls' hP hS (lset_has (v := .ref _) hl'))
  · exact h.elim
theorem z_astore {i : Nat} (hd : decode cc pc = .ok (.astore i, 2)) (hn : i < nL) : SndG scr own cc nL ret R0 pc (s_astore i (pc + 2)) := by
  intro G rt A cells slots p l e R s m args below meth c Q C k hk ls st σ h H locs rls hP hS hl
  unfold s_astore at h
  split at h
  · exact lv_astore C.1.1 C.1.2.1 hd hl hn rfl (fun rls' hl' => hk _ _ _ _ h H locs rls' hP hS (lset_has (v := .ref _) hl'))
  · exact h.elim
def s_iinc (i : Nat) (n : Int32) (nx : Nat) : Stf := fun k _ ls st σ => match lget ls i with
  | some (.int x) => k nx (lset ls i (.int (x + n))) st σ
  | _ => False
theorem z_iinc {i : Nat} {n : Int} {v : Int32} (hd : decode cc pc = .ok (.iinc i n, 3)) (hv : Int32.ofInt n = v) (hn : i < nL) : SndG scr own cc nL ret R0 pc (s_iinc i v (pc + 3)) := by
  intro G rt A cells slots p l e R s m args below meth c Q C k hk ls st σ h H locs rls hP hS hl
  unfold s_iinc at h
  split at h
  · rename_i x hx
    obtain ⟨j, hj⟩ := List.getElem?_of_mem (List.mem_map.mpr ⟨(i, .int x), lget_mem ls i _ hx, rfl⟩ : (i, vM (ga G) (.int x)) ∈ lM (ga G) ls)
    exact lv_iinc (k := j) C.1.1 C.1.2.1 hd hl hj (by rw [hv]) hn rfl (fun rls' hl' => hk _ _ _ _ h H locs rls' hP hS (lset_has (v := .int _) hl'))
  · exact h.elim
def s_bin (f : Int32 → Int32 → Int32) (nx : Nat) : Stf := fun k _ ls st σ => match st with
  | .int y :: .int x :: r => k nx ls (.int (f x y) :: r) σ
  | _ => False
theorem z_iadd (hd : decode cc pc = .ok (.iadd, 1)) : SndG scr own cc nL ret R0 pc (s_bin (fun x y => x + y) (pc + 1)) := by
  intro G rt A cells slots p l e R s m args below meth c Q C k hk ls st σ h H locs rls hP hS hl
  unfold s_bin at h
  split at h
  · exact lv_iadd C.1.1 C.1.2.1 hd (hk _ _ _ _ h H locs rls hP hS hl)
  · exact h.elim
theorem z_isub (hd : decode cc pc = .ok (.isub, 1)) : SndG scr own cc nL ret R0 pc (s_bin (fun x y => x - y) (pc + 1)) := by
  intro G rt A cells slots p l e R s m args below meth c Q C k hk ls st σ h H locs rls hP hS hl
  unfold s_bin at h
  split at h
  · exact lv_isub C.1.1 C.1.2.1 hd (hk _ _ _ _ h H locs rls hP hS hl)
  · exact h.elim
theorem z_imul (hd : decode cc pc = .ok (.imul, 1)) : SndG scr own cc nL ret R0 pc (s_bin (fun x y => x * y) (pc + 1)) := by
  intro G rt A cells slots p l e R s m args below meth c Q C k hk ls st σ h H locs rls hP hS hl
  unfold s_bin at h
  split at h
  · exact lv_imul C.1.1 C.1.2.1 hd (hk _ _ _ _ h H locs rls hP hS hl)
  · exact h.elim
theorem z_iand (hd : decode cc pc = .ok (.iand, 1)) : SndG scr own cc nL ret R0 pc (s_bin (fun x y => x &&& y) (pc + 1)) := by
  intro G rt A cells slots p l e R s m args below meth c Q C k hk ls st σ h H locs rls hP hS hl
  unfold s_bin at h
  split at h
  · exact lv_iand C.1.1 C.1.2.1 hd (hk _ _ _ _ h H locs rls hP hS hl)
  · exact h.elim
theorem z_ior (hd : decode cc pc = .ok (.ior, 1)) : SndG scr own cc nL ret R0 pc (s_bin (fun x y => x ||| y) (pc + 1)) := by
  intro G rt A cells slots p l e R s m args below meth c Q C k hk ls st σ h H locs rls hP hS hl
  unfold s_bin at h
  split at h
  · exact lv_ior C.1.1 C.1.2.1 hd (hk _ _ _ _ h H locs rls hP hS hl)
  · exact h.elim
theorem z_ixor (hd : decode cc pc = .ok (.ixor, 1)) : SndG scr own cc nL ret R0 pc (s_bin (fun x y => x ^^^ y) (pc + 1)) := by
  intro G rt A cells slots p l e R s m args below meth c Q C k hk ls st σ h H locs rls hP hS hl
  unfold s_bin at h
  split at h
  · exact lv_ixor C.1.1 C.1.2.1 hd (hk _ _ _ _ h H locs rls hP hS hl)
  · exact h.elim
theorem z_ishl (hd : decode cc pc = .ok (.ishl, 1)) : SndG scr own cc nL ret R0 pc (s_bin (fun x y => x <<< (y &&& 31)) (pc + 1)) := by
  intro G rt A cells slots p l e R s m args below meth c Q C k hk ls st σ h H locs rls hP hS hl
  unfold s_bin at h
  split at h
  · exact lv_ishl C.1.1 C.1.2.1 hd (hk _ _ _ _ h H locs rls hP hS hl)
  · exact h.elim
theorem z_ishr (hd : decode cc pc = .ok (.ishr, 1)) : SndG scr own cc nL ret R0 pc (s_bin (fun x y => x >>> (y &&& 31)) (pc + 1)) := by
  intro G rt A cells slots p l e R s m args below meth c Q C k hk ls st σ h H locs rls hP hS hl
  unfold s_bin at h
  split at h
  · exact lv_ishr C.1.1 C.1.2.1 hd (hk _ _ _ _ h H locs rls hP hS hl)
  · exact h.elim
theorem z_iushr (hd : decode cc pc = .ok (.iushr, 1)) : SndG scr own cc nL ret R0 pc (s_bin (fun x y => (x.toUInt32 >>> (y.toUInt32 &&& Int32.toUInt32 31)).toInt32) (pc + 1)) := by
  intro G rt A cells slots p l e R s m args below meth c Q C k hk ls st σ h H locs rls hP hS hl
  unfold s_bin at h
  split at h
  · exact lv_iushr C.1.1 C.1.2.1 hd rfl (hk _ _ _ _ h H locs rls hP hS hl)
  · exact h.elim
def s_div (nx : Nat) : Stf := fun k _ ls st σ => match st with
  | .int y :: .int x :: r => ¬ y = 0 ∧ k nx ls (.int (x / y) :: r) σ
  | _ => False
theorem z_idiv (hd : decode cc pc = .ok (.idiv, 1)) : SndG scr own cc nL ret R0 pc (s_div (pc + 1)) := by
  intro G rt A cells slots p l e R s m args below meth c Q C k hk ls st σ h H locs rls hP hS hl
  unfold s_div at h
  split at h
  · exact lv_idiv C.1.1 C.1.2.1 hd h.1 (hk _ _ _ _ h.2 H locs rls hP hS hl)
  · exact h.elim
def s_rem (nx : Nat) : Stf := fun k _ ls st σ => match st with
  | .int y :: .int x :: r => ¬ y = 0 ∧ k nx ls (.int (x - x / y * y) :: r) σ
  | _ => False
theorem z_irem (hd : decode cc pc = .ok (.irem, 1)) : SndG scr own cc nL ret R0 pc (s_rem (pc + 1)) := by
  intro G rt A cells slots p l e R s m args below meth c Q C k hk ls st σ h H locs rls hP hS hl
  unfold s_rem at h
  split at h
  · exact lv_irem C.1.1 C.1.2.1 hd h.1 (hk _ _ _ _ h.2 H locs rls hP hS hl)
  · exact h.elim
def s_un (f : Int32 → Int32) (nx : Nat) : Stf := fun k _ ls st σ => match st with
  | .int x :: r => k nx ls (.int (f x) :: r) σ
  | _ => False
theorem z_i2b (hd : decode cc pc = .ok (.i2b, 1)) : SndG scr own cc nL ret R0 pc (s_un (fun x => x.toInt8.toInt32) (pc + 1)) := by
  intro G rt A cells slots p l e R s m args below meth c Q C k hk ls st σ h H locs rls hP hS hl
  unfold s_un at h
  split at h
  · exact lv_i2b C.1.1 C.1.2.1 hd rfl (hk _ _ _ _ h H locs rls hP hS hl)
  · exact h.elim
theorem z_i2s (hd : decode cc pc = .ok (.i2s, 1)) : SndG scr own cc nL ret R0 pc (s_un (fun x => x.toInt16.toInt32) (pc + 1)) := by
  intro G rt A cells slots p l e R s m args below meth c Q C k hk ls st σ h H locs rls hP hS hl
  unfold s_un at h
  split at h
  · exact lv_i2s C.1.1 C.1.2.1 hd rfl (hk _ _ _ _ h H locs rls hP hS hl)
  · exact h.elim
def s_i2l (nx : Nat) : Stf := fun k _ ls st σ => match st with
  | .int x :: r => k nx ls (.long x.toInt64 :: r) σ
  | _ => False
theorem z_i2l (hd : decode cc pc = .ok (.i2l, 1)) : SndG scr own cc nL ret R0 pc (s_i2l (pc + 1)) := by
  intro G rt A cells slots p l e R s m args below meth c Q C k hk ls st σ h H locs rls hP hS hl
  unfold s_i2l at h
  split at h
  · exact lv_i2l C.1.1 C.1.2.1 hd rfl (hk _ _ _ _ h H locs rls hP hS hl)
  · exact h.elim
def s_lbin (f : Int64 → Int64 → Int64) (nx : Nat) : Stf := fun k _ ls st σ => match st with
  | .long y :: .long x :: r => k nx ls (.long (f x y) :: r) σ
  | _ => False
theorem z_ladd (hd : decode cc pc = .ok (.ladd, 1)) : SndG scr own cc nL ret R0 pc (s_lbin (fun x y => x + y) (pc + 1)) := by
  intro G rt A cells slots p l e R s m args below meth c Q C k hk ls st σ h H locs rls hP hS hl
  unfold s_lbin at h
  split at h
  · exact lv_ladd C.1.1 C.1.2.1 hd (hk _ _ _ _ h H locs rls hP hS hl)
  · exact h.elim
theorem z_lmul (hd : decode cc pc = .ok (.lmul, 1)) : SndG scr own cc nL ret R0 pc (s_lbin (fun x y => x * y) (pc + 1)) := by
  intro G rt A cells slots p l e R s m args below meth c Q C k hk ls st σ h H locs rls hP hS hl
  unfold s_lbin at h
  split at h
  · exact lv_lmul C.1.1 C.1.2.1 hd (hk _ _ _ _ h H locs rls hP hS hl)
  · exact h.elim
def s_lcmp (nx : Nat) : Stf := fun k _ ls st σ => match st with
  | .long y :: .long x :: r => k nx ls (.int (lg_cmp x y) :: r) σ
  | _ => False
theorem z_lcmp (hd : decode cc pc = .ok (.lcmp, 1)) : SndG scr own cc nL ret R0 pc (s_lcmp (pc + 1)) := by
  intro G rt A cells slots p l e R s m args below meth c Q C k hk ls st σ h H locs rls hP hS hl
  unfold s_lcmp at h
  split at h
  · exact W.lcmp C.1.1 C.1.2.1 hd (hk _ _ _ _ h H locs rls hP hS hl)
  · exact h.elim
def s_dup (nx : Nat) : Stf := fun k _ ls st σ => match st with
  | v :: r => bif Nat.beq v.category 1 then k nx ls (v :: v :: r) σ else False
  | _ => False
theorem z_dup (hd : decode cc pc = .ok (.dup, 1)) : SndG scr own cc nL ret R0 pc (s_dup (pc + 1)) := by
  intro G rt A cells slots p l e R s m args below meth c Q C k hk ls st σ h H locs rls hP hS hl
  unfold s_dup at h
  split at h
  · rename_i v r
    cases hb : Nat.beq v.category 1 with
    | true =>
      rw [hb] at h
      exact lv_dup C.1.1 C.1.2.1 hd (by rw [vM_cat]; exact Nat.eq_of_beq_eq_true hb) (hk _ _ _ _ h H locs rls hP hS hl)
    | false => rw [hb] at h; exact h.elim
  · exact h.elim
def s_pop (nx : Nat) : Stf := fun k _ ls st σ => match st with
  | v :: r => bif Nat.beq v.category 1 then k nx ls r σ else False
  | _ => False
theorem z_pop (hd : decode cc pc = .ok (.pop, 1)) : SndG scr own cc nL ret R0 pc (s_pop (pc + 1)) := by
  intro G rt A cells slots p l e R s m args below meth c Q C k hk ls st σ h H locs rls hP hS hl
  unfold s_pop at h
  split at h
  · rename_i v r
    cases hb : Nat.beq v.category 1 with
    | true =>
      rw [hb] at h
      exact lv_pop C.1.1 C.1.2.1 hd (by rw [vM_cat]; exact Nat.eq_of_beq_eq_true hb) (hk _ _ _ _ h H locs rls hP hS hl)
    | false => rw [hb] at h; exact h.elim
  · exact h.elim
def s_dup2 (nx : Nat) : Stf := fun k _ ls st σ => match st with
  | v :: w :: r => bif Nat.beq v.category 1 && Nat.beq w.category 1 then k nx ls (v :: w :: v :: w :: r) σ else False
  | _ => False
theorem z_dup2 (hd : decode cc pc = .ok (.dup2, 1)) : SndG scr own cc nL ret R0 pc (s_dup2 (pc + 1)) := by
  intro G rt A cells slots p l e R s m args below meth c Q C k hk ls st σ h H locs rls hP hS hl
  unfold s_dup2 at h
  split at h
  · rename_i v w r
    cases hb : (Nat.beq v.category 1 && Nat.beq w.category 1) with
    | true =>
      rw [hb] at h
      obtain ⟨h1, h2⟩ := Bool.and_eq_true_iff.mp hb
      exact lv_dup2_11 C.1.1 C.1.2.1 hd (by rw [vM_cat]; exact Nat.eq_of_beq_eq_true h1) (by rw [vM_cat]; exact Nat.eq_of_beq_eq_true h2) (hk _ _ _ _ h H locs rls hP hS hl)
    | false => rw [hb] at h; exact h.elim
  · exact h.elim
def s_goto (t : Nat) : Stf := fun k _ ls st σ => k t ls st σ
theorem z_goto {off : Int} {t : Nat} (hd : decode cc pc = .ok (.goto off, 3)) (ht : (pc : Int) + off = (t : Int)) : SndG scr own cc nL ret R0 pc (s_goto t) := by
  intro G rt A cells slots p l e R s m args below meth c Q C k hk ls st σ h H locs rls hP hS hl
  exact lv_goto C.1.1 C.1.2.1 hd ht (hk _ _ _ _ h H locs rls hP hS hl)
def s_if (q : Int32 → Prop) (t nx : Nat) : Stf := fun k _ ls st σ => match st with
  | .int x :: r => (q x → k t ls r σ) ∧ (¬ q x → k nx ls r σ)
  | _ => False
def s_icmp (q : Int32 → Int32 → Prop) (t nx : Nat) : Stf := fun k _ ls st σ => match st with
  | .int y :: .int x :: r => (q x y → k t ls r σ) ∧ (¬ q x y → k nx ls r σ)
  | _ => False
theorem z_if_eq {off : Int} {t : Nat} (hd : decode cc pc = .ok (.ifCond .eq off, 3)) (ht : (pc : Int) + off = (t : Int)) : SndG scr own cc nL ret R0 pc (s_if (fun x => x = 0) t (pc + 3)) := by
  intro G rt A cells slots p l e R s m args below meth c Q C k hk ls st σ h H locs rls hP hS hl
  unfold s_if at h
  split at h
  · exact lv_if_eq C.1.1 C.1.2.1 hd ht (fun q => hk _ _ _ _ (h.1 q) H locs rls hP hS hl) (fun q => hk _ _ _ _ (h.2 q) H locs rls hP hS hl)
  · exact h.elim
theorem z_icmp_eq {off : Int} {t : Nat} (hd : decode cc pc = .ok (.if_icmp .eq off, 3)) (ht : (pc : Int) + off = (t : Int)) : SndG scr own cc nL ret R0 pc (s_icmp (fun x y => x = y) t (pc + 3)) := by
  intro G rt A cells slots p l e R s m args below meth c Q C k hk ls st σ h H locs rls hP hS hl
  unfold s_icmp at h
  split at h
  · exact lv_icmp_eq C.1.1 C.1.2.1 hd ht (fun q => hk _ _ _ _ (h.1 q) H locs rls hP hS hl) (fun q => hk _ _ _ _ (h.2 q) H locs rls hP hS hl)
  · exact h.elim
theorem z_if_ne {off : Int} {t : Nat} (hd : decode cc pc = .ok (.ifCond .ne off, 3)) (ht : (pc : Int) + off = (t : Int)) : SndG scr own cc nL ret R0 pc (s_if (fun x => x = 0) (pc + 3) t) := by
  intro G rt A cells slots p l e R s m args below meth c Q C k hk ls st σ h H locs rls hP hS hl
  unfold s_if at h
  split at h
  · exact lv_if_ne C.1.1 C.1.2.1 hd ht (fun q => hk _ _ _ _ (h.2 q) H locs rls hP hS hl) (fun q => hk _ _ _ _ (h.1 q) H locs rls hP hS hl)
  · exact h.elim
theorem z_icmp_ne {off : Int} {t : Nat} (hd : decode cc pc = .ok (.if_icmp .ne off, 3)) (ht : (pc : Int) + off = (t : Int)) : SndG scr own cc nL ret R0 pc (s_icmp (fun x y => x = y) (pc + 3) t) := by
  intro G rt A cells slots p l e R s m args below meth c Q C k hk ls st σ h H locs rls hP hS hl
  unfold s_icmp at h
  split at h
  · exact lv_icmp_ne C.1.1 C.1.2.1 hd ht (fun q => hk _ _ _ _ (h.2 q) H locs rls hP hS hl) (fun q => hk _ _ _ _ (h.1 q) H locs rls hP hS hl)
  · exact h.elim
theorem z_if_lt {off : Int} {t : Nat} (hd : decode cc pc = .ok (.ifCond .lt off, 3)) (ht : (pc : Int) + off = (t : Int)) : SndG scr own cc nL ret R0 pc (s_if (fun x => x < 0) t (pc + 3)) := by
  intro G rt A cells slots p l e R s m args below meth c Q C k hk ls st σ h H locs rls hP hS hl
  unfold s_if at h
  split at h
  · exact lv_if_lt C.1.1 C.1.2.1 hd ht (fun q => hk _ _ _ _ (h.1 q) H locs rls hP hS hl) (fun q => hk _ _ _ _ (h.2 q) H locs rls hP hS hl)
  · exact h.elim
theorem z_icmp_lt {off : Int} {t : Nat} (hd : decode cc pc = .ok (.if_icmp .lt off, 3)) (ht : (pc : Int) + off = (t : Int)) : SndG scr own cc nL ret R0 pc (s_icmp (fun x y => x < y) t (pc + 3)) := by
  intro G rt A cells slots p l e R s m args below meth c Q C k hk ls st σ h H locs rls hP hS hl
  unfold s_icmp at h
  split at h
  · exact lv_icmp_lt C.1.1 C.1.2.1 hd ht (fun q => hk _ _ _ _ (h.1 q) H locs rls hP hS hl) (fun q => hk _ _ _ _ (h.2 q) H locs rls hP hS hl)
  · exact h.elim
theorem z_if_ge {off : Int} {t : Nat} (hd : decode cc pc = .ok (.ifCond .ge off, 3)) (ht : (pc : Int) + off = (t : Int)) : SndG scr own cc nL ret R0 pc (s_if (fun x => 0 ≤ x) t (pc + 3)) := by
  intro G rt A cells slots p l e R s m args below meth c Q C k hk ls st σ h H locs rls hP hS hl
  unfold s_if at h
  split at h
  · exact lv_if_ge C.1.1 C.1.2.1 hd ht (fun q => hk _ _ _ _ (h.1 q) H locs rls hP hS hl) (fun q => hk _ _ _ _ (h.2 q) H locs rls hP hS hl)
  · exact h.elim
theorem z_icmp_ge {off : Int} {t : Nat} (hd : decode cc pc = .ok (.if_icmp .ge off, 3)) (ht : (pc : Int) + off = (t : Int)) : SndG scr own cc nL ret R0 pc (s_icmp (fun x y => y ≤ x) t (pc + 3)) := by
  intro G rt A cells slots p l e R s m args below meth c Q C k hk ls st σ h H locs rls hP hS hl
  unfold s_icmp at h
  split at h
  · exact lv_icmp_ge C.1.1 C.1.2.1 hd ht (fun q => hk _ _ _ _ (h.1 q) H locs rls hP hS hl) (fun q => hk _ _ _ _ (h.2 q) H locs rls hP hS hl)
  · exact h.elim
theorem z_if_gt {off : Int} {t : Nat} (hd : decode cc pc = .ok (.ifCond .gt off, 3)) (ht : (pc : Int) + off = (t : Int)) : SndG scr own cc nL ret R0 pc (s_if (fun x => 0 < x) t (pc + 3)) := by
  intro G rt A cells slots p l e R s m args below meth c Q C k hk ls st σ h H locs rls hP hS hl
  unfold s_if at h
  split at h
  · exact lv_if_gt C.1.1 C.1.2.1 hd ht (fun q => hk _ _ _ _ (h.1 q) H locs rls hP hS hl) (fun q => hk _ _ _ _ (h.2 q) H locs rls hP hS hl)
  · exact h.elim
theorem z_icmp_gt {off : Int} {t : Nat} (hd : decode cc pc = .ok (.if_icmp .gt off, 3)) (ht : (pc : Int) + off = (t : Int)) : SndG scr own cc nL ret R0 pc (s_icmp (fun x y => y < x) t (pc + 3)) := by
  intro G rt A cells slots p l e R s m args below meth c Q C k hk ls st σ h H locs rls hP hS hl
  unfold s_icmp at h
  split at h
  · exact lv_icmp_gt C.1.1 C.1.2.1 hd ht (fun q => hk _ _ _ _ (h.1 q) H locs rls hP hS hl) (fun q => hk _ _ _ _ (h.2 q) H locs rls hP hS hl)
  · exact h.elim
theorem z_if_le {off : Int} {t : Nat} (hd : decode cc pc = .ok (.ifCond .le off, 3)) (ht : (pc : Int) + off = (t : Int)) : SndG scr own cc nL ret R0 pc (s_if (fun x => x ≤ 0) t (pc + 3)) := by
  intro G rt A cells slots p l e R s m args below meth c Q C k hk ls st σ h H locs rls hP hS hl
  unfold s_if at h
  split at h
  · exact lv_if_le C.1.1 C.1.2.1 hd ht (fun q => hk _ _ _ _ (h.1 q) H locs rls hP hS hl) (fun q => hk _ _ _ _ (h.2 q) H locs rls hP hS hl)
  · exact h.elim
theorem z_icmp_le {off : Int} {t : Nat} (hd : decode cc pc = .ok (.if_icmp .le off, 3)) (ht : (pc : Int) + off = (t : Int)) : SndG scr own cc nL ret R0 pc (s_icmp (fun x y => x ≤ y) t (pc + 3)) := by
  intro G rt A cells slots p l e R s m args below meth c Q C k hk ls st σ h H locs rls hP hS hl
  unfold s_icmp at h
  split at h
  · exact lv_icmp_le C.1.1 C.1.2.1 hd ht (fun q => hk _ _ _ _ (h.1 q) H locs rls hP hS hl) (fun q => hk _ _ _ _ (h.2 q) H locs rls hP hS hl)
  · exact h.elim
/-- switches: one case behind another -/
def s_cases (k : Kt) (ls : Lcs) (r : List Value) (σ : Sg) (x : Int32) (d : Nat) : List (Int32 × Nat) → Prop
  | [] => k d ls r σ
  | (v, t) :: cs => (x = v → k t ls r σ) ∧ (¬ x = v → s_cases k ls r σ x d cs)
def s_sw (cs : List (Int32 × Nat)) (d : Nat) : Stf := fun k _ ls st σ => match st with
  | .int x :: r => s_cases k ls r σ x d cs
  | _ => False
theorem s_cases_spec {k : Kt} {ls : Lcs} {r : List Value} {σ : Sg} {x : Int32} {d : Nat} : ∀ (cs : List (Int32 × Nat)), s_cases k ls r σ x d cs → (∃ q ∈ cs, x = q.1 ∧ k q.2 ls r σ) ∨ ((∀ q ∈ cs, ¬ x = q.1) ∧ k d ls r σ)
  | [], h => Or.inr ⟨fun q hq => absurd hq List.not_mem_nil, h⟩
  | (v, t) :: cs, h => by
    by_cases hx : x = v
    · exact Or.inl ⟨(v, t), List.mem_cons_self, hx, h.1 hx⟩
    · rcases s_cases_spec cs (h.2 hx) with ⟨q, h1, h2⟩ | ⟨h1, h2⟩
      · exact Or.inl ⟨q, List.mem_cons_of_mem _ h1, h2⟩
      · refine Or.inr ⟨fun q hq => ?_, h2⟩
        rcases List.mem_cons.mp hq with rfl | hq
        · exact hx
        · exact h1 q hq
/-- a table of the numbers from lo on -/
def twOk (pc lo : Nat) (offs : List Int) (cs : List (Int32 × Nat)) : Bool := cs.zipIdx.all (fun q => decide (q.1.1.toInt = (lo : Int) + q.2) && decide (offs[q.2]? = some ((q.1.2 : Int) - pc))) && Nat.beq cs.length offs.length
theorem z_tsw {dflt : Int} {lo hi : Nat} {offs : Array Int} {len d : Nat} {cs : List (Int32 × Nat)} (hd : decode cc pc = .ok (.tableswitch dflt lo hi offs, len)) (hd2 : (pc : Int) + dflt = (d : Int)) (hn : cs.length = hi + 1 - lo) (hlo : lo ≤ hi) (hok : twOk pc lo offs.toList cs = true) : SndG scr own cc nL ret R0 pc (s_sw cs d) := by
  intro G rt A cells slots p l e R s m args below meth c Q C k hk ls st σ h H locs rls hP hS hl
  unfold s_sw at h
  obtain ⟨ha, -⟩ := Bool.and_eq_true_iff.mp hok
  have hat : ∀ (i : Nat) (q : Int32 × Nat), cs[i]? = some q → q.1.toInt = (lo : Int) + i ∧ offs[i]? = some ((q.2 : Int) - pc) := by
    intro i q hi
    have h1 := List.all_eq_true.mp ha (q, i) (by
      refine List.mem_of_getElem? (i := i) ?_
      rw [List.getElem?_zipIdx, hi]
      simp)
    obtain ⟨h2, h3⟩ := Bool.and_eq_true_iff.mp h1
    exact ⟨of_decide_eq_true h2, by rw [← Array.getElem?_toList]; exact of_decide_eq_true h3⟩
  split at h
  · rename_i x r
    rcases s_cases_spec cs h with ⟨q, h1, h2, h3⟩ | ⟨h1, h2⟩
    · obtain ⟨i, hi⟩ := List.getElem?_of_mem h1
      obtain ⟨g1, g2⟩ := hat i q hi
      have hil : i < cs.length := (List.getElem?_eq_some_iff.mp hi).1
      subst h2
      refine lv_tableIn C.1.1 C.1.2.1 hd (by omega) (by omega) (off := (q.2 : Int) - pc) ?_ (tgt := q.2) (by omega) (hk _ _ _ _ h3 H locs rls hP hS hl)
      rw [g1, show ((lo : Int) + i - lo).toNat = i by omega]
      exact g2
    · refine lv_tableOut C.1.1 C.1.2.1 hd ?_ hd2 (hk _ _ _ _ h2 H locs rls hP hS hl)
      by_cases hx : x.toInt < lo
      · exact Or.inl hx
      · refine Or.inr ?_
        refine Int.not_le.mp (fun hx2 => ?_)
        have hj : (x.toInt - lo).toNat < cs.length := by omega
        have hget : cs[(x.toInt - lo).toNat]? = some cs[(x.toInt - lo).toNat] := List.getElem?_eq_getElem hj
        obtain ⟨g1, -⟩ := hat _ _ hget
        refine h1 _ (List.mem_of_getElem? hget) (Int32.toInt_inj.mp ?_)
        rw [g1]
        omega
  · exact h.elim
/-- a lookup's pairs -/
def lwOk (pc : Nat) (ps : List (Int × Int)) (cs : List (Int32 × Nat)) : Bool := decide (ps = cs.map (fun q => (q.1.toInt, (q.2 : Int) - pc)))
theorem z_lsw {dflt : Int} {ps : Array (Int × Int)} {len d : Nat} {cs : List (Int32 × Nat)} (hd : decode cc pc = .ok (.lookupswitch dflt ps, len)) (hd2 : (pc : Int) + dflt = (d : Int)) (hp : (ps.toList.zip (ps.toList.drop 1)).all (fun (a, next) => a.1 < next.1) = true) (hok : lwOk pc ps.toList cs = true) : SndG scr own cc nL ret R0 pc (s_sw cs d) := by
  intro G rt A cells slots p l e R s m args below meth c Q C k hk ls st σ h H locs rls hP hS hl
  unfold s_sw at h
  have hps : ps.toList = cs.map (fun q => (q.1.toInt, (q.2 : Int) - pc)) := of_decide_eq_true hok
  split at h
  · rename_i x r
    have key : ∀ cs : List (Int32 × Nat), s_cases k ls r σ x d cs → ∃ t : Nat, Op.lookupswitch.offset (cs.map (fun q => (q.1.toInt, (q.2 : Int) - pc))) dflt x.toInt = (t : Int) - pc ∧ k t ls r σ := by
      intro cs
      induction cs with
      | nil => intro h; exact ⟨d, by show dflt = _; omega, h⟩
      | cons q cs ih =>
        intro h
        by_cases hx : x = q.1
        · refine ⟨q.2, ?_, h.1 hx⟩
          rw [List.map_cons, Op.lookupswitch.offset_cons, if_pos (by rw [hx])]
        · obtain ⟨t, h1, h2⟩ := ih (h.2 hx)
          refine ⟨t, ?_, h2⟩
          rw [List.map_cons, lv_osw hx rfl]
          exact h1
    obtain ⟨t, h1, h2⟩ := key cs h
    exact lv_lookup (off := (t : Int) - pc) C.1.1 C.1.2.1 hd hp (by rw [hps]; exact h1) (tgt := t) (by omega) (hk _ _ _ _ h2 H locs rls hP hS hl)
  · exact h.elim
def sh (o : Nat) : Option ShE := shL[o]?
/-- a field is read -/
def s_getf (ci kf nx : Nat) : Stf := fun k _ ls st σ => match st with
  | .ref o :: r => match sh o with
    | some (.inl (c', fs)) => bif Nat.beq ci c' then (match fs[kf]? with
      | some f => k nx ls (fvA σ o kf f :: r) σ
      | none => False) else False
    | _ => False
  | _ => False
theorem fvA_M {G : Gt} {σ : Sg} {o kf : Nat} {f : Option Nat} : vM (ga G) (fvA σ o kf f) = fv (ga G) (fun _ => σ o) 0 kf f := by cases f <;> rfl
theorem z_getf {ci kf N idx : Nat} {ref C : String} {T : u_T} (hin : ∀ w ∈ u_ws C T N, w ∈ AW) (hc : vwCl[ci]? = some (C, T, N)) (hkN : kf < N) (hw : Cond.fieldLink own idx ref (T kf).2.1 (T kf).2.2.1 ∈ AW) (href : ref = (T kf).1) (hd : decode cc pc = .ok (.getfield idx, 3)) : SndG scr own cc nL ret R0 pc (s_getf ci kf (pc + 3)) := by
  intro G rt A cells slots p l e R s m args below meth c Q C0 k hk ls st σ h H locs rls hP hS hl
  unfold s_getf at h
  split at h
  · rename_i o r
    split at h
    · rename_i c' fs hsh
      cases hb : Nat.beq ci c' with
      | false => rw [hb] at h; exact h.elim
      | true =>
        rw [hb] at h
        have hcc := Nat.eq_of_beq_eq_true hb
        subst hcc
        dsimp only [cond_true] at h
        split at h
        · rename_i f hf
          refine va_get (D := G.1) (v := vM (ga G) (fvA σ o kf f)) C0.1.1 C0.1.2.1 C0.1.2.2.2.2 hin C0.1.2.2.2.1 C0.2.2.2.1.1 hP o (wW_at hsh) hc kf hkN (C0.1.2.2.2.2 _ hw) (fun x hx => by rw [href]; exact hx) ?_ hd (hk _ _ _ _ h H locs rls hP hS hl)
          rw [List.getElem?_map, List.getElem?_zipIdx, hf, fvA_M]
          simp
        · exact h.elim
    · exact h.elim
  · exact h.elim
/-- an int field is written -/
def s_putf (ty : FieldType) (ci kf nx : Nat) : Stf := fun k _ ls st σ => match st with
  | .int x :: .ref o :: r => match sh o with
    | some (.inl (c', fs)) => bif Nat.beq ci c' then (match fs[kf]? with
      | some none => (narrow ty (.int x) = .int x ∧ fits ty (.int x) = true) ∧ k nx ls r (up2 σ o kf x)
      | _ => False) else False
    | _ => False
  | _ => False
theorem zip_set {α : Type} {G : Gt} {σ : Sg} {o kf : Nat} {fs : List (Option Nat)} {x : Int32} (hf : fs[kf]? = some none) : (fs.zipIdx.map (fun p => fv (ga G) (fun _ => σ o) 0 p.2 p.1)).set kf (.int x) = fs.zipIdx.map (fun p => fv (ga G) (fun _ => upd (σ o) kf x) 0 p.2 p.1) := by
  refine List.ext_getElem? (fun j => ?_)
  have hlt : kf < fs.length := (List.getElem?_eq_some_iff.mp hf).1
  by_cases hj : j = kf
  · subst hj
    rw [List.getElem?_set_self (by rw [List.length_map, List.length_zipIdx]; exact hlt), List.getElem?_map, List.getElem?_zipIdx, hf]
    simp [fv, upd]
  · rw [List.getElem?_set_ne (Ne.symm hj), List.getElem?_map, List.getElem?_map, List.getElem?_zipIdx]
    cases hg : fs[j]? with
    | none => rfl
    | some f => cases f <;> simp [fv, upd, hj]
theorem z_putf {ci kf N idx : Nat} {ref C : String} {T : u_T} {ty : FieldType} (ty0 : Nat → FieldType) (hty : ∀ k, k < N → parseFieldDescriptor (T k).2.2.1 = some (ty0 k)) (hnm : ∀ a, a < N → ∀ b, b < N → a ≠ b → (T a).2.1 ≠ (T b).2.1) (hin : ∀ w ∈ u_ws C T N, w ∈ AW) (hc : vwCl[ci]? = some (C, T, N)) (hkN : kf < N) (hw : Cond.fieldLink own idx ref (T kf).2.1 (T kf).2.2.1 ∈ AW) (href : ref = (T kf).1) (hfin : (T kf).2.2.2 = false) (hdt : parseFieldDescriptor (T kf).2.2.1 = some ty) (hd : decode cc pc = .ok (.putfield idx, 3)) : SndG scr own cc nL ret R0 pc (s_putf ty ci kf (pc + 3)) := by
  intro G rt A cells slots p l e R s m args below meth c Q C0 k hk ls st σ h H locs rls hP hS hl
  unfold s_putf at h
  split at h
  · rename_i x o r
    split at h
    · rename_i c' fs hsh
      cases hb : Nat.beq ci c' with
      | false => rw [hb] at h; exact h.elim
      | true =>
        rw [hb] at h
        have hcc := Nat.eq_of_beq_eq_true hb
        subst hcc
        dsimp only [cond_true] at h
        split at h
        · rename_i hf
          obtain ⟨⟨hn, hfit⟩, h⟩ := h
          refine va_put (D := G.1) (v := .int x) (ty := ty) C0.1.1 C0.1.2.1 C0.1.2.2.2.2 hin ty0 hty hnm C0.1.2.2.2.1 C0.2.2.2.1.1 hP (wW_DA C0.2.2.2.1.2.1 C0.2.2.2.2.2.1) hS o (wW_at hsh) hc kf hkN (C0.1.2.2.2.2 _ hw) (fun x hx => by rw [href]; exact hx) hfin hdt hn hfit ?_ hd (fun H1 locs1 hP1 _ hS1 => ?_)
          · rw [List.length_map, List.length_zipIdx]
            exact (List.getElem?_eq_some_iff.mp hf).1
          · rw [zip_set (α := Unit) hf] at hP1
            have h2 : wP G (up2 σ o kf x) H1 := by
              show va_P G.1 vwCl (wW G (upr σ o (upd (σ o) kf x))) H1
              rw [← wW_set hsh]
              exact hP1
            exact hk _ _ _ _ h H1 locs1 rls h2 hS1 hl
        · exact h.elim
    · exact h.elim
  · exact h.elim
theorem ix_of {i : Int32} {j n : Nat} (h : i = nI j ∧ j < n ∧ j < 2147483648) : vp_in i n ∧ i.toNatClampNeg = j := by
  obtain ⟨rfl, h1, h2⟩ := h
  have hc : (nI j).toNatClampNeg = j := nI_clamp h2
  exact ⟨fun q => q.elim (nI_pos h2) (fun q => by rw [hc] at q; omega), hc⟩
def s_iald (nx : Nat) : Stf := fun k _ ls st σ => match st with
  | .int i :: .ref o :: r => match sh o with
    | some (.inr (.inl n)) => ∃ j, (i = nI j ∧ j < n ∧ j < 2147483648) ∧ k nx ls (.int (σ o j) :: r) σ
    | none => match gsh o with
      | some f => ∃ j, (i = nI j ∧ j < 7 ∧ j < 2147483648) ∧ k nx ls (.int (f j) :: r) σ
      | none => False
    | _ => False
  | _ => False
theorem GLb_gs {G : Gt} {A : Nat → Prop} {U : State} {H : Heap} {o : Nat} {f : Nat → Int32} (h : GLb G A U H) (ho : gsh o = some f) : GS G o A U H ∧ (gsh o).getD kA = f := by
  refine ⟨?_, by rw [ho]; rfl⟩
  unfold gsh at ho
  split at ho
  · exact h.1.1
  · exact h.1.2
  · cases ho
theorem z_iald (hd : decode cc pc = .ok (.iaload, 1)) : SndG scr own cc nL ret R0 pc (s_iald (pc + 1)) := by
  intro G rt A cells slots p l e R s m args below meth c Q C k hk ls st σ h H locs rls hP hS hl
  unfold s_iald at h
  split at h
  · rename_i i o r
    split at h
    · rename_i n hsh
      obtain ⟨j, hj, h⟩ := h
      obtain ⟨h1, h2⟩ := ix_of hj
      refine va_iald (D := G.1) C.1.1 C.1.2.1 C.2.2.2.1.1 hP o 0 (wW_at hsh) rfl h1 hd ?_
      rw [h2]
      exact hk _ _ _ _ h H locs rls hP hS hl
    · split at h
      · rename_i f hf
        obtain ⟨hg, he⟩ := GLb_gs C.2.2.2.1.2.2 hf
        obtain ⟨-, hX, hlt, hA⟩ := hg
        rw [he] at hX
        obtain ⟨j, hj, h⟩ := h
        obtain ⟨h1, h2⟩ := ix_of hj
        refine va_sld C.1.1 C.1.2.1 hX hlt hA hS h1 hd ?_
        rw [h2]
        exact hk _ _ _ _ h H locs rls hP hS hl
      · exact h.elim
    · exact h.elim
  · exact h.elim
def s_iast (nx : Nat) : Stf := fun k _ ls st σ => match st with
  | .int x :: .int i :: .ref o :: r => match sh o with
    | some (.inr (.inl n)) => ∃ j, (i = nI j ∧ j < n ∧ j < 2147483648) ∧ k nx ls r (up2 σ o j x)
    | _ => False
  | _ => False
theorem z_iast (hd : decode cc pc = .ok (.iastore, 1)) : SndG scr own cc nL ret R0 pc (s_iast (pc + 1)) := by
  intro G rt A cells slots p l e R s m args below meth c Q C k hk ls st σ h H locs rls hP hS hl
  unfold s_iast at h
  split at h
  · rename_i x i o r
    split at h
    · rename_i n hsh
      obtain ⟨j, hj, h⟩ := h
      obtain ⟨h1, hc⟩ := ix_of hj
      refine va_iast (D := G.1) C.1.1 C.1.2.1 C.2.2.2.1.1 hP (wW_DA C.2.2.2.1.2.1 C.2.2.2.2.2.1) hS o 0 (wW_at hsh) rfl h1 hd (fun H1 locs1 hP1 _ hS1 => ?_)
      rw [hc] at hP1
      have h2 : wP G (up2 σ o j x) H1 := by
        show va_P G.1 vwCl (wW G (upr σ o (upd (σ o) j x))) H1
        rw [← wW_set hsh]
        exact hP1
      exact hk _ _ _ _ h H1 locs1 rls h2 hS1 hl
    · exact h.elim
  · exact h.elim
def s_aald (nx : Nat) : Stf := fun k _ ls st σ => match st with
  | .int i :: .ref o :: r => match sh o with
    | some (.inr (.inr l)) => ∃ j, (i = nI j ∧ j < l.length ∧ j < 2147483648) ∧ (match l[j]? with
      | some j => k nx ls (.ref j :: r) σ
      | none => False)
    | _ => False
  | _ => False
theorem z_aald (hd : decode cc pc = .ok (.aaload, 1)) : SndG scr own cc nL ret R0 pc (s_aald (pc + 1)) := by
  intro G rt A cells slots p l e R s m args below meth c Q C k hk ls st σ h H locs rls hP hS hl
  unfold s_aald at h
  split at h
  · rename_i i o r
    split at h
    · rename_i q hsh
      obtain ⟨j0, hj0, h⟩ := h
      obtain ⟨h1, hc⟩ := ix_of hj0
      split at h
      · rename_i j hj
        refine va_aldq (D := G.1) C.1.1 C.1.2.1 C.2.2.2.1.1 hP o 1 (wW_at hsh) rfl h1 hd ?_
        rw [hc, hj]
        exact hk _ _ _ _ h H locs rls hP hS hl
      · exact h.elim
    · exact h.elim
  · exact h.elim
/-- the place of a static's row -/
def s_gets (g nx : Nat) : Stf := fun k _ ls st σ => k nx ls (.ref g :: st) σ
theorem z_getsK (ho : own = "MovingMarket$Square") (hd : decode cc pc = .ok (.getstatic 61, 3)) : SndG scr own cc nL ret R0 pc (s_gets 56 (pc + 3)) := by
  intro G rt A cells slots p l e R s m args below meth c Q C k hk ls st σ h H locs rls hP hS hl
  subst ho
  exact va_getsN C.1.1 C.1.2.1 C.2.2.2.1.2.2.1.1.1 hS C.1.2.2.2.1 (va_Nw.use rfl C.2.2.2.1.2.2.2.2.2.1.1) (fun _ h => h) hd (hk _ _ _ _ h H locs rls hP hS hl)
theorem z_getsP (ho : own = "MovingMarket$Square") (hd : decode cc pc = .ok (.getstatic 64, 3)) : SndG scr own cc nL ret R0 pc (s_gets 57 (pc + 3)) := by
  intro G rt A cells slots p l e R s m args below meth c Q C k hk ls st σ h H locs rls hP hS hl
  subst ho
  exact va_getsN C.1.1 C.1.2.1 C.2.2.2.1.2.2.1.2.1 hS C.1.2.2.2.1 (va_Nw.use rfl C.2.2.2.1.2.2.2.2.2.1.2) (fun _ h => h) hd (hk _ _ _ _ h H locs rls hP hS hl)
/-- System.arraycopy of ints -/
def s_copy (nx : Nat) : Stf := fun k _ ls st σ => match st with
  | .int n :: .int dp :: .ref o1 :: .int sp :: .ref o0 :: r => match sh o0, sh o1 with
    | some (.inr (.inl n0)), some (.inr (.inl n1)) => bif Nat.ble (r.map fun v => v.category).sum 8 then ∃ a b c, (sp = nI a ∧ dp = nI b ∧ n = nI c ∧ a + c ≤ n0 ∧ b + c ≤ n1 ∧ a < 2147483648 ∧ b < 2147483648 ∧ c < 2147483648) ∧ k nx ls r (upr σ o1 (va_cpy (σ o0) (σ o1) a b c)) else False
    | _, _ => False
  | _ => False
theorem sM_sum (ad : Nat → Nat) (r : List Value) : ((sM ad r).map fun v => v.category).sum = (r.map fun v => v.category).sum := by
  unfold sM
  rw [List.map_map]
  congr 1
  refine List.map_congr_left (fun v _ => ?_)
  exact vM_cat ad v
theorem z_copy {idx : Nat} (hd : decode cc pc = .ok (.invokestatic idx, 3)) (hw : Cond.methodLink own idx arraycopyName ∈ AW) (hnat : Cond.native arraycopyName ∈ AW) (hstat : Cond.static arraycopyName ∈ AW) (hini : Cond.initialized "java/lang/System" ∈ AW) (hR : 1 ≤ R0.frames ∧ 8 + (nativeFrameWords "java/lang/System" "arraycopy" 5 + 11) ≤ R0.locals) : SndG scr own cc nL ret R0 pc (s_copy (pc + 3)) := by
  intro G rt A cells slots p l e R s m args below meth c Q C k hk ls st σ h H locs rls hP hS hl
  obtain ⟨⟨hx, hb, hml, hown, hts⟩, -, -, ⟨hK, hI, -⟩, hRR, hX⟩ := C
  unfold s_copy at h
  split at h
  · rename_i n dp o1 sp o0 r
    split at h
    · rename_i n0 n1 h0 h1
      cases hq : Nat.ble (r.map fun v => v.category).sum 8 with
      | false => rw [hq] at h; exact h.elim
      | true =>
        rw [hq] at h
        obtain ⟨a, b, z, ⟨rfl, rfl, rfl, a4, a5, b1, b2, b3⟩, h⟩ := h
        have hsum := Nat.le_of_ble_eq_true hq
        have ca : (nI a).toNatClampNeg = a := nI_clamp b1
        have cb : (nI b).toNatClampNeg = b := nI_clamp b2
        have cz : (nI z).toNatClampNeg = z := nI_clamp b3
        refine va_copyi (D := G.1) hx hb (hml.trans hl.1.symm) hown (hts _ hw) (hts _ hnat) (hts _ hstat) (hts _ hini) hK hP (wW_DA hI hX.1) hS o0 o1 0 0 (wW_at h0) (wW_at h1) rfl rfl rfl (nI_pos b1) (nI_pos b2) (nI_pos b3) (by rw [ca, cz]; exact a4) (by rw [cb, cz]; exact a5) (fun _ _ => rfl) (by rw [hRR]; exact hR.1) (by rw [sM_sum, hRR]; omega) hd (fun H1 locs1 hP1 _ hS1 => ?_)
        rw [ca, cb, cz] at hP1
        have h2 : wP G (upr σ o1 (va_cpy (σ o0) (σ o1) a b z)) H1 := by
          show va_P G.1 vwCl (wW G _) H1
          rw [← wW_set h1]
          exact hP1
        exact hk _ _ _ _ h H1 locs1 rls h2 hS1 hl
    · exact h.elim
  · exact h.elim
def s_min (nx : Nat) : Stf := fun k _ ls st σ => match st with
  | .int y :: .int x :: r => bif Nat.ble (r.map fun v => v.category).sum 8 then k nx ls (.int (if y < x then y else x) :: r) σ else False
  | _ => False
theorem z_min {idx : Nat} (hd : decode cc pc = .ok (.invokestatic idx, 3)) (hw : Cond.methodLink own idx Lib.Math.min.name ∈ AW) (hstat : Cond.static Lib.Math.min.name ∈ AW) (hini : Cond.initialized "java/lang/Math" ∈ AW) (hcode : Cond.code Lib.Math.min.name Lib.Math.min.code 2 (some .int) ∈ AW) (hR : 1 ≤ R0.frames ∧ 21 ≤ R0.locals) : SndG scr own cc nL ret R0 pc (s_min (pc + 3)) := by
  intro G rt A cells slots p l e R s m args below meth c Q C k hk ls st σ h H locs rls hP hS hl
  obtain ⟨⟨hx, hb, hml, hown, hts⟩, -, -, -, hRR, hX⟩ := C
  unfold s_min at h
  split at h
  · rename_i y x r
    cases hq : Nat.ble (r.map fun v => v.category).sum 8 with
    | false => rw [hq] at h; exact h.elim
    | true =>
      rw [hq] at h
      have hsum := Nat.le_of_ble_eq_true hq
      exact va_mmin hx hb (hml.trans hl.1.symm) hown (hts _ hw) (hts _ hstat) (hts _ hini) (hts _ hcode) (by rw [hRR]; exact hR.1) (by rw [sM_sum, hRR]; omega) hX.2.1.1 hX.2.1.2 hd (hk _ _ _ _ h H locs rls hP hS hl)
  · exact h.elim
def s_max (nx : Nat) : Stf := fun k _ ls st σ => match st with
  | .int y :: .int x :: r => bif Nat.ble (r.map fun v => v.category).sum 8 then k nx ls (.int (if x < y then y else x) :: r) σ else False
  | _ => False
theorem z_max {idx : Nat} (hd : decode cc pc = .ok (.invokestatic idx, 3)) (hw : Cond.methodLink own idx Lib.Math.max.name ∈ AW) (hstat : Cond.static Lib.Math.max.name ∈ AW) (hini : Cond.initialized "java/lang/Math" ∈ AW) (hcode : Cond.code Lib.Math.max.name Lib.Math.max.code 2 (some .int) ∈ AW) (hR : 1 ≤ R0.frames ∧ 21 ≤ R0.locals) : SndG scr own cc nL ret R0 pc (s_max (pc + 3)) := by
  intro G rt A cells slots p l e R s m args below meth c Q C k hk ls st σ h H locs rls hP hS hl
  obtain ⟨⟨hx, hb, hml, hown, hts⟩, -, -, -, hRR, hX⟩ := C
  unfold s_max at h
  split at h
  · rename_i y x r
    cases hq : Nat.ble (r.map fun v => v.category).sum 8 with
    | false => rw [hq] at h; exact h.elim
    | true =>
      rw [hq] at h
      have hsum := Nat.le_of_ble_eq_true hq
      exact va_mmax hx hb (hml.trans hl.1.symm) hown (hts _ hw) (hts _ hstat) (hts _ hini) (hts _ hcode) (by rw [hRR]; exact hR.1) (by rw [sM_sum, hRR]; omega) hX.2.1.1 hX.2.1.2 hd (hk _ _ _ _ h H locs rls hP hS hl)
  · exact h.elim
def argsV : Nat → List Value → List Value → Option (List Value × Nat × List Value)
  | 0, acc, .ref o :: r => some (acc, o, r)
  | 0, _, _ => none
  | n + 1, acc, a :: r => argsV n (a :: acc) r
  | _ + 1, _, [] => none
def argsS : Nat → List Value → List Value → Option (List Value × List Value)
  | 0, acc, r => some (acc, r)
  | n + 1, acc, a :: r => argsS n (a :: acc) r
  | _ + 1, _, [] => none
theorem argsV_spec : ∀ (n : Nat) (acc st As : List Value) (o : Nat) (r : List Value), argsV n acc st = some (As, o, r) → acc.reverse ++ st = As.reverse ++ .ref o :: r ∧ As.length = n + acc.length
  | 0, acc, st, As, o, r, h => by
    unfold argsV at h
    split at h
    · cases h; exact ⟨rfl, by omega⟩
    · cases h
    · first | contradiction | omega
    · first | contradiction | omega
  | n + 1, acc, [], As, o, r, h => by cases h
  | n + 1, acc, a :: st, As, o, r, h => by
    obtain ⟨h1, h2⟩ := argsV_spec n (a :: acc) st As o r h
    exact ⟨by rw [← h1]; simp, by rw [h2, List.length_cons]; omega⟩
theorem argsS_spec : ∀ (n : Nat) (acc st As : List Value) (r : List Value), argsS n acc st = some (As, r) → acc.reverse ++ st = As.reverse ++ r ∧ As.length = n + acc.length
  | 0, acc, st, As, r, h => by cases h; exact ⟨rfl, by omega⟩
  | n + 1, acc, [], As, r, h => by cases h
  | n + 1, acc, a :: st, As, r, h => by
    obtain ⟨h1, h2⟩ := argsS_spec n (a :: acc) st As r h
    exact ⟨by rw [← h1]; simp, by rw [h2, List.length_cons]; omega⟩
/-- a call of a method of n arguments on an object of class ci -/
def s_inv (M : MI) (ci n nx : Nat) : Stf := fun k _ ls st σ => match argsV n [] st with
  | some (As, o, r) => match sh o with
    | some (.inl (c', _)) => bif Nat.beq ci c' && Nat.ble (r.map fun v => v.category).sum 8 then ∃ rt', Ct M (.ref o :: As) σ rt' ∧ ∀ v σ', rt' v σ' → k nx ls (v.toList ++ r) σ' else False
    | _ => False
  | none => False
theorem vM_toList (ad : Nat → Nat) (v : Option Value) (r : List Value) : (v.map (vM ad)).toList ++ sM ad r = sM ad (v.toList ++ r) := by cases v <;> rfl
theorem good_code {y : MethodName} {b : ByteArray} {n : Nat} {r : Option FieldType} : goodWord (.code y b n r) = true := rfl
theorem GoodIn_wsM {M : MI} (hc : Cond.code M.1 M.2.1 M.2.2.1 M.2.2.2.1 ∈ AW) : GoodIn AW (wsM M) := by
  intro w hw
  have h : w ∈ AW := by
    rcases List.mem_cons.mp hw with rfl | h
    · exact hc
    · exact h
  exact ⟨h, good_of_word (List.mem_filter.mp h).2⟩
theorem GoodIn_one {w : Cond} (h : w ∈ AW) : w ∈ AW ∧ ((w.onTables && w.keeps) = true ∨ ∃ ty, w = .arrayClass ty) := ⟨h, good_of_word (List.mem_filter.mp h).2⟩
theorem z_inv {M : MI} {ci n idx N : Nat} {C : String} {T : u_T} (hc : vwCl[ci]? = some (C, T, N)) (hd : decode cc pc = .ok (.invokevirtual idx, 3)) (w1 : Cond.methodLink own idx M.1 ∈ AW) (w2 : Cond.instanceMethod M.1 ∈ AW) (w3 : Cond.selects C M.1 M.1 ∈ AW) (w4 : Cond.initialized C ∈ AW) (w5 : Cond.code M.1 M.2.1 M.2.2.1 M.2.2.2.1 ∈ AW)
    (hdd : M.1.cls = C ∧ M.1.cls ≠ "java/lang/invoke/MethodHandle" ∧ M.1.cls ≠ "java/lang/invoke/VarHandle" ∧ (parseMethodDescriptor M.1.desc).map (fun d => d.parameters.length) = some n) (hR : M.2.2.2.2.1 + 1 ≤ R0.frames ∧ 8 + (M.2.2.1 + 11) + M.2.2.2.2.2 ≤ R0.locals) : SndG scr own cc nL ret R0 pc (s_inv M ci n (pc + 3)) := by
  intro G rt A cells slots p l e R s m args below meth c Q C0 k hk ls st σ h H locs rls hP hS hl
  obtain ⟨C1, -, hlk, ⟨hK, hI, hG⟩, hRR, hX⟩ := C0
  unfold s_inv at h
  split at h
  · rename_i As o r ha
    obtain ⟨hst, hlen⟩ := argsV_spec n [] st As o r ha
    rw [List.reverse_nil, List.nil_append] at hst
    subst hst
    split at h
    · rename_i c' fs hsh
      cases hb : (Nat.beq ci c' && Nat.ble (r.map fun v => v.category).sum 8) with
      | false => rw [hb] at h; exact h.elim
      | true =>
        rw [hb] at h
        obtain ⟨hb1, hb2⟩ := Bool.and_eq_true_iff.mp hb
        have hcc := Nat.eq_of_beq_eq_true hb1
        subst hcc
        obtain ⟨rt', hM, h⟩ := h
        have hg : GoodIn AW (wsV own idx C M.1 (wsM M)) := by
          intro w hw
          rcases List.mem_append.mp hw with hw | hw
          · simp only [List.mem_cons, List.not_mem_nil, or_false] at hw
            rcases hw with rfl | rfl | rfl | rfl
            · exact GoodIn_one w1
            · exact GoodIn_one w2
            · exact GoodIn_one w3
            · exact GoodIn_one w4
          · exact GoodIn_wsM w5 w hw
        have hst2 : sM (ga G) (As.reverse ++ .ref o :: r) = (sM (ga G) As).reverse ++ .ref (ga G o) :: sM (ga G) r := by
          unfold sM
          rw [List.map_append, List.map_reverse]
          rfl
        rw [hst2]
        refine callG (rt := rt') (va_runV (As := sM (ga G) As) (rest := sM (ga G) r) (b := ga G o) C1 (hM l G) (cwV n C1.2.2.2.2 hg rfl rfl rfl hdd (by rw [hRR]; exact hR)) ⟨PRE_blind, va_recv hK hP hc (wW_at hsh), fun U hU hW => ⟨rfl, by rw [hU]; exact hP, va_K.moved hW.alike hK, hI, ?_⟩⟩ rfl (by rw [List.length_map, hlen]; rfl) hl.1 rfl (lv_room (by rw [sM_sum]; exact Nat.le_of_ble_eq_true hb2)) hd ⟨hX.2.1.1, hX.2.1.2⟩) hS hX.1 (fun v σ' H1 locs1 hv hP1 hS1 => ?_)
        · rw [hU]
          exact GLb.warm hW (GLb.narrow hX.1 (GLb.kept hS.1 hS.2.1 hG))
        · rw [vM_toList]
          exact hk _ _ _ _ (h v σ' hv) H1 locs1 rls hP1 hS1 hl
    · exact h.elim
  · exact h.elim
/-- a call of a static method of n arguments -/
def s_invS (M : MI) (n nx : Nat) : Stf := fun k _ ls st σ => match argsS n [] st with
  | some (As, r) => bif Nat.ble (r.map fun v => v.category).sum 8 then ∃ rt', Ct M As σ rt' ∧ ∀ v σ', rt' v σ' → k nx ls (v.toList ++ r) σ' else False
  | none => False
theorem z_invS {M : MI} {n idx : Nat} (hd : decode cc pc = .ok (.invokestatic idx, 3)) (w1 : Cond.methodLink own idx M.1 ∈ AW) (w2 : Cond.static M.1 ∈ AW) (w4 : Cond.initialized M.1.cls ∈ AW) (w5 : Cond.code M.1 M.2.1 M.2.2.1 M.2.2.2.1 ∈ AW)
    (hdd : M.1.cls ≠ "java/lang/invoke/MethodHandle" ∧ M.1.cls ≠ "java/lang/invoke/VarHandle" ∧ (parseMethodDescriptor M.1.desc).map (fun d => d.parameters.length) = some n) (hR : M.2.2.2.2.1 + 1 ≤ R0.frames ∧ 8 + (M.2.2.1 + 11) + M.2.2.2.2.2 ≤ R0.locals) : SndG scr own cc nL ret R0 pc (s_invS M n (pc + 3)) := by
  intro G rt A cells slots p l e R s m args below meth c Q C0 k hk ls st σ h H locs rls hP hS hl
  obtain ⟨C1, -, hlk, ⟨hK, hI, hG⟩, hRR, hX⟩ := C0
  unfold s_invS at h
  split at h
  · rename_i As r ha
    obtain ⟨hst, hlen⟩ := argsS_spec n [] st As r ha
    rw [List.reverse_nil, List.nil_append] at hst
    subst hst
    cases hb : Nat.ble (r.map fun v => v.category).sum 8 with
    | false => rw [hb] at h; exact h.elim
    | true =>
      rw [hb] at h
      obtain ⟨rt', hM, h⟩ := h
      have hst2 : sM (ga G) (As.reverse ++ r) = (sM (ga G) As).reverse ++ sM (ga G) r := by
        unfold sM
        rw [List.map_append, List.map_reverse]
      rw [hst2]
      refine callG (rt := rt') (va_runS (As := sM (ga G) As) (rest := sM (ga G) r) C1 (hM l G) ⟨callB_of n C1.2.2.2.2 (GoodIn_wsM w5) rfl rfl rfl (C1.2.2.2.2 _ w4) (C1.2.2.2.2 _ w1) hdd (by rw [hRR]; exact hR), C1.2.2.2.2 _ w2⟩ ⟨PRE_blind, fun U hU hW => ⟨rfl, by rw [hU]; exact hP, va_K.moved hW.alike hK, hI, ?_⟩⟩ rfl (by rw [List.length_map, hlen]; rfl) hl.1 rfl (lv_room (by rw [sM_sum]; exact Nat.le_of_ble_eq_true hb)) hd ⟨hX.2.1.1, hX.2.1.2⟩) hS hX.1 (fun v σ' H1 locs1 hv hP1 hS1 => ?_)
      · rw [hU]
        exact GLb.warm hW (GLb.narrow hX.1 (GLb.kept hS.1 hS.2.1 hG))
      · rw [vM_toList]
        exact hk _ _ _ _ (h v σ' hv) H1 locs1 rls hP1 hS1 hl
  · exact h.elim
/-- ends -/
def s_iret : Stf := fun _ rt _ st σ => match st with
  | [.int x] => rt (some (.int x)) σ
  | _ => False
theorem z_iret (hr : ret = some .int) (hd : decode cc pc = .ok (.ireturn, 1)) : SndG scr own cc nL ret R0 pc s_iret := by
  intro G rt A cells slots p l e R s m args below meth c Q C k hk ls st σ h H locs rls hP hS hl
  obtain ⟨⟨hx, hb, hml, hown, hts⟩, hret, hlk, -, hRR, -⟩ := C
  obtain ⟨hret2, hQ, rfl, rfl, rfl⟩ := hret (by rw [hr]; decide)
  unfold s_iret at h
  split at h
  · rename_i x
    subst hQ
    exact W.iret (v := x) hx hb (hret2.trans hr) (fun t ht hW => ⟨⟨some (.int x), σ, rfl, h, by rw [ht]; exact hP⟩, hS.F ht⟩) hS.2.2 hd
  · exact h.elim
def bz (x : Int32) : Prop := x = 0 ∨ x = 1
def s_zret : Stf := fun _ rt _ st σ => match st with
  | [.int x] => bz x ∧ rt (some (.int x)) σ
  | _ => False
theorem bz_nar {x : Int32} (h : bz x) : narrow .boolean (.int x) = .int x := by
  rcases h with rfl | rfl <;> rfl
theorem z_zret (hr : ret = some .boolean) (hd : decode cc pc = .ok (.ireturn, 1)) : SndG scr own cc nL ret R0 pc s_zret := by
  intro G rt A cells slots p l e R s m args below meth c Q C k hk ls st σ h H locs rls hP hS hl
  obtain ⟨⟨hx, hb, hml, hown, hts⟩, hret, hlk, -, hRR, -⟩ := C
  obtain ⟨hret2, hQ, rfl, rfl, rfl⟩ := hret (by rw [hr]; decide)
  unfold s_zret at h
  split at h
  · rename_i x
    subst hQ
    exact W.zret (v := x) hx hb (hret2.trans hr) (bz_nar h.1) (fun t ht hW => ⟨⟨some (.int x), σ, rfl, h.2, by rw [ht]; exact hP⟩, hS.F ht⟩) hS.2.2 hd
  · exact h.elim
def s_vret : Stf := fun _ rt _ st σ => match st with
  | [] => rt none σ
  | _ => False
theorem z_vret (hr : ret = none) (hd : decode cc pc = .ok (.return_, 1)) : SndG scr own cc nL ret R0 pc s_vret := by
  intro G rt A cells slots p l e R s m args below meth c Q C k hk ls st σ h H locs rls hP hS hl
  obtain ⟨⟨hx, hb, hml, hown, hts⟩, hret, hlk, -, hRR, -⟩ := C
  obtain ⟨hret2, hQ, rfl, rfl, rfl⟩ := hret (by rw [hr]; decide)
  unfold s_vret at h
  split at h
  · subst hQ
    exact W.vret hx hb (hret2.trans hr) (fun t ht hW => ⟨⟨none, σ, rfl, h, by rw [ht]; exact hP⟩, hS.F ht⟩) hS.2.2 hd
  · exact h.elim
def s_lret : Stf := fun _ rt _ st σ => match st with
  | [.long x] => rt (some (.long x)) σ
  | _ => False
theorem z_lret (hr : ret = some .long) (hd : decode cc pc = .ok (.lreturn, 1)) : SndG scr own cc nL ret R0 pc s_lret := by
  intro G rt A cells slots p l e R s m args below meth c Q C k hk ls st σ h H locs rls hP hS hl
  obtain ⟨⟨hx, hb, hml, hown, hts⟩, hret, hlk, -, hRR, -⟩ := C
  obtain ⟨hret2, hQ, rfl, rfl, rfl⟩ := hret (by rw [hr]; decide)
  unfold s_lret at h
  split at h
  · rename_i x
    subst hQ
    exact W.lret (v := x) hx hb (hret2.trans hr) (fun t ht hW => ⟨⟨some (.long x), σ, rfl, h, by rw [ht]; exact hP⟩, hS.F ht⟩) hS.2.2 hd
  · exact h.elim
def s_aret : Stf := fun _ rt _ st σ => match st with
  | [.ref x] => rt (some (.ref x)) σ
  | _ => False
theorem z_aret (hr : ret = some (.object "java/lang/String")) (hd : decode cc pc = .ok (.areturn, 1)) : SndG scr own cc nL ret R0 pc s_aret := by
  intro G rt A cells slots p l e R s m args below meth c Q C k hk ls st σ h H locs rls hP hS hl
  obtain ⟨⟨hx, hb, hml, hown, hts⟩, hret, hlk, -, hRR, -⟩ := C
  obtain ⟨hret2, hQ, rfl, rfl, rfl⟩ := hret (by rw [hr]; decide)
  unfold s_aret at h
  split at h
  · rename_i x
    subst hQ
    exact W.aret (v := .ref (ga G x)) hx hb (hret2.trans hr) (Or.inl ⟨_, rfl⟩) (Or.inr ⟨_, rfl⟩) (fun t ht hW => ⟨⟨some (.ref x), σ, rfl, h, by rw [ht]; exact hP⟩, hS.F ht⟩) hS.2.2 hd
  · exact h.elim
end ST
/-- behind a call with its exact end -/
theorem cl {M : MI} {As : List Value} {σ σ' : Sg} {v : Option Value} {k : Kt} {nx : Nat} {ls : Lcs} {r : List Value} (c : Ct M As σ (Ex v σ')) (h : k nx ls (v.toList ++ r) σ') : ∃ rt', Ct M As σ rt' ∧ ∀ v σ', rt' v σ' → k nx ls (v.toList ++ r) σ' := ⟨_, c, fun a b hab => by rw [hab.1, hab.2]; exact h⟩
