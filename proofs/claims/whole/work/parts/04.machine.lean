/-! THE ABSTRACT MACHINE: one world of fixed cells (both systems side by side), its ints as one function; step functions; what holds of them holds of the machine -/
/-- the ints of the world: cell, place -/
abbrev Sg : Type := Nat → Nat → Int32
abbrev Lcs : Type := List (Nat × Value)
/-- what a cell is: an object (its class; for each field the cell that it holds, or none: an int), a row of ints, a row of objects -/
abbrev ShE : Type := (Nat × List (Option Nat)) ⊕ (Nat ⊕ List Nat)
abbrev Gt : Type := va_G × ClassId × ClassId × (Nat → Nat) × (Nat → Nat)
def ga (G : Gt) : Nat → Nat := G.2.2.2.1
def gV (G : Gt) : Nat → Nat := G.2.2.2.2
def shSq (o : Nat) : List ShE := [.inl (2, [some (o + 1), some (o + 2), some (o + 3), some (o + 4), some (o + 5), some (o + 6), some (o + 7), some (o + 8), none, none, none, none]), .inr (.inl 12), .inr (.inl 12), .inr (.inl 8), .inr (.inl 8), .inr (.inl 8), .inr (.inl 8), .inr (.inl 8), .inr (.inl 10)]
/-- the cells: 0 MovingMarket; 1, 10, 19 now, trial, kept; 28, 30 tried, winner; 32 tape; 34 sheets, 35 .. 42; 43 plainCoin; 44 told; 45 the reference, 46 .. 55 its rows -/
def shL : List ShE :=
  [.inl (4, [some 1, some 10, some 19, some 28, some 30, some 32, some 34, some 43, some 44, none])] ++ shSq 1 ++ shSq 10 ++ shSq 19 ++
  [.inl (0, [some 29, none]), .inr (.inl 8), .inl (0, [some 31, none]), .inr (.inl 8), .inl (3, [some 33, none, none, none, none, none]), .inr (.inl 120), .inr (.inr [35, 37, 39, 41]),
   .inl (1, [some 36, none, none]), .inr (.inl 40), .inl (1, [some 38, none, none]), .inr (.inl 40), .inl (1, [some 40, none, none]), .inr (.inl 40), .inl (1, [some 42, none, none]), .inr (.inl 40), .inr (.inl 8), .inr (.inl 7),
   .inl (5, [some 46, some 47, some 48, some 49, none, some 50, none, some 51, none, none, none, none, none, some 52, some 53, some 54, some 55]), .inr (.inl 78), .inr (.inl 78), .inr (.inl 78), .inr (.inl 7), .inr (.inl 8), .inr (.inl 120), .inr (.inl 4), .inr (.inl 4), .inr (.inl 160), .inr (.inl 40)]
def fv (ad : Nat → Nat) (σ : Sg) (i k : Nat) : Option Nat → Value
  | some j => .ref (ad j)
  | none => .int (σ i k)
def fvA (σ : Sg) (i k : Nat) : Option Nat → Value
  | some j => .ref j
  | none => .int (σ i k)
def wE (G : Gt) (f : Nat → Int32) : ShE → va_E
  | .inl (ci, fs) => .inr (ci, fs.zipIdx.map (fun p => fv (ga G) (fun _ => f) 0 p.2 p.1))
  | .inr (.inl n) => .inl (G.2.1, n, .inl f)
  | .inr (.inr l) => .inl (G.2.2.1, l.length, .inr (.inr (.inr (.inr (fun k => (l[k]?).map (ga G))))))
def wW (G : Gt) (σ : Sg) : va_W := shL.zipIdx.map (fun p => (ga G p.2, wE G (σ p.2) p.1))
def upr (σ : Sg) (i : Nat) (f : Nat → Int32) : Sg := fun a => if a = i then f else σ a
abbrev up2 (σ : Sg) (i k : Nat) (x : Int32) : Sg := upr σ i (upd (σ i) k x)
theorem wW_at {G : Gt} {σ : Sg} {i : Nat} {e : ShE} (h : shL[i]? = some e) : (wW G σ)[i]? = some (ga G i, wE G (σ i) e) := by
  unfold wW
  rw [List.getElem?_map, List.getElem?_zipIdx, h]
  simp
theorem wW_len (G : Gt) (σ : Sg) : (wW G σ).length = 56 := by
  unfold wW
  rw [List.length_map, List.length_zipIdx]
  rfl
theorem wW_adr {G : Gt} {σ : Sg} {k : Nat} {q : Nat × va_E} (h : (wW G σ)[k]? = some q) : k < 56 ∧ q.1 = ga G k ∧ ∃ e, shL[k]? = some e ∧ q = (ga G k, wE G (σ k) e) := by
  have hk : k < (wW G σ).length := (List.getElem?_eq_some_iff.mp h).1
  rw [wW_len] at hk
  have hs : k < shL.length := hk
  have he : shL[k]? = some shL[k] := List.getElem?_eq_getElem hs
  rw [wW_at he] at h
  cases h
  exact ⟨hk, rfl, _, he, rfl⟩
theorem wW_set {G : Gt} {σ : Sg} {i : Nat} {e : ShE} {f : Nat → Int32} (h : shL[i]? = some e) : (wW G σ).set i (ga G i, wE G f e) = wW G (upr σ i f) := by
  refine List.ext_getElem? (fun k => ?_)
  have hi : i < 56 := (List.getElem?_eq_some_iff.mp h).1
  by_cases hk : k = i
  · subst hk
    rw [List.getElem?_set_self (by rw [wW_len]; exact hi), wW_at h]
    simp [upr]
  · rw [List.getElem?_set_ne (Ne.symm hk)]
    by_cases hl : k < 56
    · have he : shL[k]? = some (shL[k]'hl) := List.getElem?_eq_getElem hl
      rw [wW_at he, wW_at he]
      simp [upr, hk]
    · rw [List.getElem?_eq_none (by rw [wW_len]; omega), List.getElem?_eq_none (by rw [wW_len]; omega)]
def Inj (ad : Nat → Nat) : Prop := ∀ i j, i < 56 → j < 56 → ad i = ad j → i = j
def Aw (ad : Nat → Nat) : Nat → Prop := fun q => ∃ i, i < 56 ∧ q = ad i
theorem wW_D {G : Gt} {σ : Sg} (h : Inj (ga G)) : va_D (Aw (ga G)) (wW G σ) := by
  refine ⟨fun i j p q hi hj e => ?_, fun k q hk => ?_⟩
  · obtain ⟨h1, h2, -⟩ := wW_adr hi
    obtain ⟨h3, h4, -⟩ := wW_adr hj
    exact h i j h1 h3 (by rw [← h2, ← h4]; exact e)
  · obtain ⟨h1, h2, -⟩ := wW_adr hk
    exact ⟨k, h1, h2⟩
/-- the two rows that stand in statics -/
def kA : Nat → Int32 := fun k => ([-1, 0, 0, 1, 2, 0, 5] : List Int32).getD k 0
def pR : Nat → Int32 := fun k => ([2, 2, 1, 3, 1, 2, 5] : List Int32).getD k 0
def gsh : Nat → Option (Nat → Int32)
  | 56 => some kA
  | 57 => some pR
  | _ => none
def gsN : Nat → String
  | 56 => "KIND_ABOVE"
  | _ => "PRICES"
def tyW (G : Gt) : List (ClassId × FieldType) := [(G.2.1, .int), (G.2.2.1, .object "MovingMarket$Sheet")]
def GS (G : Gt) (g : Nat) (A : Nat → Prop) (U : State) (H : Heap) : Prop := va_Z "MovingMarket" (gsN g) "[I" (.ref (ga G g)) A U H ∧ va_X (ga G g) 7 ((gsh g).getD kA) U H ∧ ga G g < H.size ∧ ¬ A (ga G g)
theorem GS.moved {G : Gt} {g : Nat} {A : Nat → Prop} {u U : State} {H : Heap} (hvm : u.vm.Alike U.vm) (h : GS G g A u H) : GS G g A U H := ⟨h.1.moved hvm, h.2.1.moved hvm, h.2.2⟩
theorem GS.kept {G : Gt} {g : Nat} {A : Nat → Prop} {U : State} {H H1 : Heap} (hz : H.size ≤ H1.size) (hq : ∀ a : Nat, a < H.size → ¬ A a → H1[a]? = H[a]?) (h : GS G g A U H) : GS G g A U H1 := ⟨h.1.kept hq, h.2.1.kept (hq _ h.2.2.1 h.2.2.2), Nat.lt_of_lt_of_le h.2.2.1 hz, h.2.2.2⟩
def sIx : List Nat := [127, 129, 131, 133, 135, 137, 139, 83, 97, 57, 102, 104, 66, 71, 73]
def sTx : List String := ["double", "idle", "shaded", "lazy", "blind", "cheese", "stall", "at", "goods", "visits", "to", "are", "shade", "sun", "spring"]
def sLen : List Nat := [6, 4, 6, 4, 5, 6, 5, 2, 5, 6, 2, 3, 5, 3, 6]
def sByt : List (List Int32) := [[100, 111, 117, 98, 108, 101], [105, 100, 108, 101], [115, 104, 97, 100, 101, 100], [108, 97, 122, 121], [98, 108, 105, 110, 100], [99, 104, 101, 101, 115, 101], [115, 116, 97, 108, 108], [97, 116], [103, 111, 111, 100, 115], [118, 105, 115, 105, 116, 115], [116, 111], [97, 114, 101], [115, 104, 97, 100, 101], [115, 117, 110], [115, 112, 114, 105, 110, 103]]
def nwK : Cond := .fieldLinkNest "MovingMarket$Square" 61 "MovingMarket" "KIND_ABOVE" "[I" "MovingMarket"
def nwP : Cond := .fieldLinkNest "MovingMarket$Square" 64 "MovingMarket" "PRICES" "[I" "MovingMarket"
/-- what stands outside the world: the statics' rows, the String constants -/
def GLb (G : Gt) (A : Nat → Prop) (U : State) (H : Heap) : Prop :=
  (GS G 56 A U H ∧ GS G 57 A U H) ∧ vk_S 15 sLen sByt (fun k => ga G (60 + k)) (gV G) A U H ∧ (∀ k, k < 15 → vk_R "MovingMarket$Tape" (sIx.getD k 0) (sTx.getD k "") (ga G (60 + k)) U) ∧ (va_Nw nwK U ∧ va_Nw nwP U) ∧ (va_Z "java/lang/String" "COMPACT_STRINGS" "Z" (.int 1) A U H ∧ va_Zq "jdk/internal/util/Preconditions" "SIOOBE_FORMATTER" "Ljava/util/function/BiFunction;" A U H)
theorem GLb.kept {G : Gt} {A : Nat → Prop} {U : State} {H H1 : Heap} (hz : H.size ≤ H1.size) (hq : ∀ a : Nat, a < H.size → ¬ A a → H1[a]? = H[a]?) (h : GLb G A U H) : GLb G A U H1 := ⟨⟨h.1.1.kept hz hq, h.1.2.kept hz hq⟩, h.2.1.kept hq, h.2.2.1, h.2.2.2.1, ⟨h.2.2.2.2.1.kept hq, h.2.2.2.2.2.kept hq⟩⟩
theorem GLb.warm {G : Gt} {A : Nat → Prop} {s U : State} {H : Heap} (hW : s.WarmedH U.vm) (h : GLb G A s H) : GLb G A U H := ⟨⟨h.1.1.moved hW.alike, h.1.2.moved hW.alike⟩, h.2.1.moved hW.alike, fun k hk => (h.2.2.1 k hk).warm hW, ⟨va_Nw.warmF hW h.2.2.2.1.1, va_Nw.warmF hW h.2.2.2.1.2⟩, ⟨h.2.2.2.2.1.moved hW.alike, h.2.2.2.2.2.moved hW.alike⟩⟩
theorem GLb.same {G : Gt} {A : Nat → Prop} {u U : State} {H : Heap} (hv : U.vm = u.vm) (h : GLb G A u H) : GLb G A U H := by
  have ha : u.vm.Alike U.vm := by rw [hv]; exact Vm.Alike.refl _
  exact ⟨⟨h.1.1.moved ha, h.1.2.moved ha⟩, h.2.1.moved ha, fun k hk => (h.2.2.1 k hk).same hv, ⟨va_Nw.same rfl hv.symm h.2.2.2.1.1, va_Nw.same rfl hv.symm h.2.2.2.1.2⟩, ⟨h.2.2.2.2.1.moved ha, h.2.2.2.2.2.moved ha⟩⟩
theorem GLb.narrow {G : Gt} {A B : Nat → Prop} {U : State} {H : Heap} (hAB : ∀ q, B q → A q) (h : GLb G A U H) : GLb G B U H :=
  ⟨⟨⟨h.1.1.1.narrow hAB, h.1.1.2.1, h.1.1.2.2.1, fun z => h.1.1.2.2.2 (hAB _ z)⟩, ⟨h.1.2.1.narrow hAB, h.1.2.2.1, h.1.2.2.2.1, fun z => h.1.2.2.2.2 (hAB _ z)⟩⟩, h.2.1.narrow hAB, h.2.2.1, h.2.2.2.1, ⟨h.2.2.2.2.1.narrow hAB, h.2.2.2.2.2.narrow hAB⟩⟩
theorem wW_DA {G : Gt} {σ : Sg} {A : Nat → Prop} (h : Inj (ga G)) (hA : ∀ q, Aw (ga G) q → A q) : va_D A (wW G σ) := (wW_D h).weaken (fun _ _ _ q => hA _ q)
def vM (ad : Nat → Nat) : Value → Value
  | .ref i => .ref (ad i)
  | v => v
theorem vM_cat (ad : Nat → Nat) (v : Value) : (vM ad v).category = v.category := by cases v <;> rfl
abbrev lM (ad : Nat → Nat) (ls : Lcs) : Lcs := ls.map (fun q => (q.1, vM ad q.2))
abbrev sM (ad : Nat → Nat) (st : List Value) : List Value := st.map (vM ad)
abbrev Kt : Type := Nat → Lcs → List Value → Sg → Prop
abbrev Rt : Type := Option Value → Sg → Prop
abbrev Stf : Type := Kt → Rt → Lcs → List Value → Sg → Prop
abbrev wP (G : Gt) (σ : Sg) (H : Heap) : Prop := va_P G.1 vwCl (wW G σ) H
def Ex (r : Option Value) (σ : Sg) : Rt := fun a b => a = r ∧ b = σ
/-- a method's end -/
def Qg (G : Gt) (rt : Rt) : Array Value → State → Outcome → State → Prop := fun _ st o t => (∃ (r : Option Value) (σ : Sg), o = .returned (r.map (vM (ga G))) ∧ rt r σ ∧ wP G σ t.heap) ∧ va_F (Aw (ga G)) st t
/-- a method's begin -/
def PRE (G : Gt) (σ : Sg) (U : State) : Prop := wP G σ U.heap ∧ va_K G.1 vwCl (tyW G) U ∧ Inj (ga G) ∧ GLb G (Aw (ga G)) U U.heap
/-- a method: name, code, words of locals, what it answers, room: frames, locals -/
abbrev MI : Type := MethodName × ByteArray × Nat × Option FieldType × Nat × Nat
abbrev wsM (M : MI) : List Cond := .code M.1 M.2.1 M.2.2.1 M.2.2.2.1 :: AW
abbrev rmM (M : MI) : Room := { frames := M.2.2.2.2.1, cells := 0, slots := 0, locals := M.2.2.2.2.2 }
/-- THE CONTRACT of a method at a world -/
def Ct (M : MI) (As : List Value) (σ : Sg) (rt : Rt) : Prop := ∀ (l : Launch) (G : Gt), Met l M.1 (wsM M) (rmM M) (va_Pc (sM (ga G) As) (PRE G σ)) (Qg G rt) 0 0 (Aw (ga G))
theorem PRE_blind {G : Gt} {σ : Sg} {As : List Value} : FrameBlind (va_Pc As (PRE G σ)) := by
  intro a U g mk h
  obtain ⟨h0, h1, h2, h3, h4⟩ := h
  exact ⟨h0, h1, va_K.moved (u := U) (U := U.calling g mk a) (Vm.Alike.refl U.vm) h2, h3, GLb.same (u := U) (U := U.calling g mk a) rfl h4⟩
abbrev Scr : Type := Option (Nat × (Nat → Int32))
def lawRet : Option FieldType := some (.object "law")
/-- what stays while a method runs (scr: the law's script, at place 58) -/
def Cx (scr : Scr) (own : String) (cc : ByteArray) (nL : Nat) (ret : Option FieldType) (R0 : Room) (G : Gt) (rt : Rt) (A : Nat → Prop) (cells slots : Nat) (p : Program) (e : Env) (R : Room) (s : State) (m : MethodId) (args : Array Value) (below : List Frame) (meth : Method) (c : Code) (Q : State → Prop) : Prop :=
  (p.tables.exec = Jvm.exec ∧ c.code = cc ∧ c.maxLocals = nL ∧ s.vm.findClass own = some m.cls ∧ ∀ w ∈ AW, w.before args s = true) ∧ (ret ≠ lawRet → meth.sig.returnType = ret ∧ Q = MQ below (Qg G rt) args s 0 0 (Aw (ga G)) ∧ cells = 0 ∧ slots = 0 ∧ A = Aw (ga G)) ∧ meth.locks = false ∧ (va_K G.1 vwCl (tyW G) s ∧ Inj (ga G) ∧ GLb G A s s.heap) ∧ R = R0 ∧
  (∀ q, Aw (ga G) q → A q) ∧ (cells ≤ R.cells ∧ slots ≤ R.slots) ∧ ∀ (L : Nat) (xs : Nat → Int32), scr = some (L, xs) → va_X (ga G 58) L xs s s.heap ∧ ga G 58 < s.heap.size ∧ ¬ A (ga G 58)
/-- the machine at an abstract state -/
def Wm (nL : Nat) (G : Gt) (A : Nat → Prop) (cells slots : Nat) (p : Program) (l : Launch) (e : Env) (R : Room) (s : State) (m : MethodId) (args : Array Value) (below : List Frame) (meth : Method) (c : Code) (Q : State → Prop) : Kt := fun pc ls st σ =>
  ∀ (H : Heap) (locs : List Loc) (rls : Array Slot), wP G σ H → va_S A s.heap H locs → lv_has rls nL (lM (ga G) ls) → W p l e R s m args below meth c H locs cells slots Q (F0 m pc rls (sM (ga G) st))
/-- the step function f is right at pc -/
def SndG (scr : Scr) (own : String) (cc : ByteArray) (nL : Nat) (ret : Option FieldType) (R0 : Room) (pc : Nat) (f : Stf) : Prop :=
  ∀ (G : Gt) (rt : Rt) (A : Nat → Prop) (cells slots : Nat) (p : Program) (l : Launch) (e : Env) (R : Room) (s : State) (m : MethodId) (args : Array Value) (below : List Frame) (meth : Method) (c : Code) (Q : State → Prop), Cx scr own cc nL ret R0 G rt A cells slots p e R s m args below meth c Q →
    ∀ k : Kt, (∀ pc ls st σ, k pc ls st σ → Wm nL G A cells slots p l e R s m args below meth c Q pc ls st σ) → ∀ ls st σ, f k rt ls st σ → Wm nL G A cells slots p l e R s m args below meth c Q pc ls st σ
abbrev Snd (own : String) (cc : ByteArray) (nL : Nat) (ret : Option FieldType) (R0 : Room) (pc : Nat) (f : Stf) : Prop := SndG none own cc nL ret R0 pc f
abbrev Cd : Type := List (Nat × Stf)
def lk : Cd → Nat → Option Stf
  | [], _ => none
  | (j, f) :: t, pc => bif Nat.beq j pc then some f else lk t pc
/-- k at the cuts, else k2 -/
def cutK (cuts : List Nat) (k k2 : Kt) : Kt := fun pc ls st σ => bif cuts.any (fun c => Nat.beq c pc) then k pc ls st σ else k2 pc ls st σ
/-- n steps, or up to a cut, then k -/
def wp (cd : Cd) (cuts : List Nat) (rt : Rt) (k : Kt) : Nat → Kt
  | 0 => k
  | n + 1 => fun pc ls st σ => match lk cd pc with
    | some f => f (cutK cuts k (wp cd cuts rt k n)) rt ls st σ
    | none => False
theorem lk_mem : ∀ (cd : Cd) (pc : Nat) (f : Stf), lk cd pc = some f → (pc, f) ∈ cd
  | [], _, _, h => by cases h
  | (j, g) :: t, pc, f, h => by
    unfold lk at h
    cases hb : Nat.beq j pc with
    | true =>
      rw [hb] at h
      have hj : j = pc := Nat.eq_of_beq_eq_true hb
      subst hj
      cases h
      exact List.mem_cons_self
    | false =>
      rw [hb] at h
      exact List.mem_cons_of_mem _ (lk_mem t pc f h)
theorem wp_sound {scr : Scr} {own : String} {cc : ByteArray} {nL : Nat} {ret : Option FieldType} {R0 : Room} {cd : Cd} (hcd : ∀ q ∈ cd, SndG scr own cc nL ret R0 q.1 q.2) {G : Gt} {rt : Rt} {A : Nat → Prop} {cells slots : Nat} {p : Program} {l : Launch} {e : Env} {R : Room} {s : State} {m : MethodId} {args : Array Value} {below : List Frame} {meth : Method} {c : Code} {Q : State → Prop} (C : Cx scr own cc nL ret R0 G rt A cells slots p e R s m args below meth c Q)
    {k : Kt} {cuts : List Nat} (hk : ∀ pc ls st σ, k pc ls st σ → Wm nL G A cells slots p l e R s m args below meth c Q pc ls st σ) : ∀ (n pc : Nat) (ls : Lcs) (st : List Value) (σ : Sg), wp cd cuts rt k n pc ls st σ → Wm nL G A cells slots p l e R s m args below meth c Q pc ls st σ
  | 0, pc, ls, st, σ, h => hk pc ls st σ h
  | n + 1, pc, ls, st, σ, h => by
    unfold wp at h
    cases hl : lk cd pc with
    | none => rw [hl] at h; exact h.elim
    | some f =>
      rw [hl] at h
      refine hcd _ (lk_mem cd pc f hl) G rt A cells slots p l e R s m args below meth c Q C (cutK cuts k (wp cd cuts rt k n)) (fun pc' ls' st' σ' h' => ?_) ls st σ h
      unfold cutK at h'
      cases hb : cuts.any (fun c => Nat.beq c pc') with
      | true => rw [hb] at h'; exact hk _ _ _ _ h'
      | false => rw [hb] at h'; exact wp_sound hcd C hk n pc' ls' st' σ' h'
theorem lM_args (ad : Nat → Nat) : ∀ (vs : List Value) (i : Nat), lv_args i (sM ad vs) = lM ad (lv_args i vs)
  | [], _ => rfl
  | v :: vs, i => by
    show (i, vM ad v) :: lv_args (if (vM ad v).category = 2 then i + 2 else i + 1) (sM ad vs) = (i, vM ad v) :: lM ad (lv_args (if v.category = 2 then i + 2 else i + 1) vs)
    rw [vM_cat, lM_args ad vs]
theorem sl_len (ad : Nat → Nat) : ∀ vs : List Value, (lg_sl (sM ad vs)).length = (lg_sl vs).length
  | [] => rfl
  | v :: vs => by
    have h := sl_len ad vs
    simp only [lg_sl, sM, List.map_cons, List.flatMap_cons, List.length_append] at h ⊢
    rw [h, vM_cat]
    split <;> rfl
/-- fewer locals -/
def lkeep (is : List Nat) (ls : Lcs) : Lcs := ls.filter (fun q => is.any (fun i => Nat.beq i q.1))
/-- what a run may use: steps, and to forget locals -/
def Go (cd : Cd) (rt : Rt) (X : Kt) : Prop := (∀ cuts n pc ls st σ, wp cd cuts rt X n pc ls st σ → X pc ls st σ) ∧ ∀ (is : List Nat) pc ls st σ, X pc (lkeep is ls) st σ → X pc ls st σ
/-- a contract out of a run of the abstract machine -/
theorem Ct.of {M : MI} {cd : Cd} {As : List Value} {σ : Sg} {rt : Rt} (hy : plainName M.1.cls = true) (hcd : ∀ q ∈ cd, Snd M.1.cls M.2.1 M.2.2.1 M.2.2.2.1 (rmM M) q.1 q.2) (hlen : (lg_sl As).length ≤ M.2.2.1) (hlaw : M.2.2.2.1 ≠ lawRet)
    (h : ∀ X : Kt, Go cd rt X → X 0 (lv_args 0 As) [] σ) : Ct M As σ rt := by
  intro l G
  refine Met.ofW (cc := M.2.1) (maxL := M.2.2.1) (ret := M.2.2.2.1) hy rfl ?_
  intro p e s m args below meth c s₁ B hml hv
  obtain ⟨rfl, hP, hK, hI, hG⟩ := hv
  have hts := atoms_spec (ws := wsM M) B.pre
  have C : Cx none M.1.cls M.2.1 M.2.2.1 M.2.2.2.1 (rmM M) G rt (Aw (ga G)) 0 0 p e (rmM M) s m (sM (ga G) As).toArray below meth c (MQ below (Qg G rt) (sM (ga G) As).toArray s 0 0 (Aw (ga G))) :=
    ⟨⟨B.exec, B.bytes, hml, findClass_of_methodNamed B.named, fun w hw => hts w (List.mem_cons_of_mem _ hw)⟩, fun _ => ⟨B.returns, rfl, rfl, rfl, rfl⟩, B.notSynchronized, ⟨hK, hI, hG⟩, rfl, fun _ h => h, ⟨Nat.zero_le _, Nat.zero_le _⟩, fun _ _ h => by cases h⟩
  have hl := lv_entry (sM (ga G) As) (n := M.2.2.1) (by rw [sl_len]; exact hlen)
  rw [lM_args] at hl
  rw [lg_entry_eq]
  exact h (Wm M.2.2.1 G (Aw (ga G)) 0 0 p l e (rmM M) s m (sM (ga G) As).toArray below meth c _) ⟨fun _ n pc ls st σ hh => wp_sound hcd C (fun _ _ _ _ h => h) n pc ls st σ hh, fun is pc ls st σ hh H locs rls hP hS hl => hh H locs rls hP hS ⟨hl.1, hl.2.1, fun q hq => hl.2.2 q (by
    obtain ⟨q0, h0, rfl⟩ := List.mem_map.mp hq
    exact List.mem_map.mpr ⟨q0, (List.mem_filter.mp h0).1, rfl⟩)⟩⟩ s.heap [] _ hP va_S.rf hl
section CG
variable {p : Program} {l : Launch} {e : Env} {R : Room} {s : State} {m : MethodId} {args : Array Value} {below : List Frame} {meth : Method} {c : Code} {H : Heap} {locs : List Loc} {Q : State → Prop}
/-- behind a call -/
theorem callG {G : Gt} {rt : Rt} {a : Array Value} {pc : Nat} {ls : Array Slot} {st0 rest : List Value} {A0 : Nat → Prop} {H0 : Heap} {cells slots : Nat} (hr : va_Run p l e R s m args below meth c H locs cells slots 0 0 (F0 m pc ls st0) rest (Qg G rt a) (Aw (ga G))) (hS : va_S A0 H0 H locs) (hA : ∀ q, Aw (ga G) q → A0 q)
    (kk : ∀ (r : Option Value) (σ : Sg) (H1 : Heap) (locs1 : List Loc), rt r σ → wP G σ H1 → va_S A0 H0 H1 locs1 → W p l e R s m args below meth c H1 locs1 cells slots Q (F0 m (pc + 3) ls ((r.map (vM (ga G))).toList ++ rest))) : W p l e R s m args below meth c H locs cells slots Q (F0 m pc ls st0) := by
  intro T hT X
  obtain ⟨v, st₀, t, T', L, h0, X', hL, e1, e2, ⟨⟨r, u, hv, hp, hb⟩, hz, hk⟩, st⟩ := hr T hT X
  cases hv
  rw [h0] at hz hk
  obtain ⟨t2, a1, b1⟩ := kk r u T'.heap (locs ++ L) hp (by rw [e1]; exact hb)
    ⟨Nat.le_trans hS.1 (by rw [e1]; exact hz), fun q h1 h2 => by rw [e1, hk q (Nat.lt_of_lt_of_le h1 hS.1) (fun z => h2 (hA q z))]; exact hS.2.1 q h1 h2, fun q hq => by
      rcases List.mem_append.mp hq with h | h
      · exact hS.2.2 q h
      · exact hA _ (hL q h)⟩ T' rfl X'
  exact ⟨t2, st t2 a1, b1⟩
end CG
