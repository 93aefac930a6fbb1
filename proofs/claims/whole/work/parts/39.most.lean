/-! ORDERS: what a search leaves -/
/-- behind a search of the class: but for the trial square and the two orders all is as it was -/
def OkC (σ σ' : Sg) : Prop := (∀ i, (i < 10 ∨ 19 ≤ i) → (i < 28 ∨ 32 ≤ i) → σ' i = σ i) ∧ ZT (Tq 10 σ')
theorem OkC_put {σ σ' U : Sg} (h : OkC σ σ') (z : ZT U) : OkC σ (putSq 10 U σ') := ⟨fun i h1 h2 => by rw [putSq_out (by omega)]; exact h.1 i h1 h2, ZT_cong (fun j hj => (Tq_put j hj).symm) z⟩
theorem OkC_upr {σ σ' : Sg} (h : OkC σ σ') {i : Nat} (hi : 28 ≤ i ∧ i < 32) (f : Nat → Int32) : OkC σ (upr σ' i f) := ⟨fun j h1 h2 => by rw [upr_out (by omega)]; exact h.1 j h1 h2, ZT_cong (fun j hj => (upr_out (show 10 + j ≠ i by omega)).symm) h.2⟩
theorem OkC_rf {σ : Sg} (z : ZT (Tq 10 σ)) : OkC σ σ := ⟨fun _ _ _ => rfl, z⟩
theorem OkC_1 {σ σ' : Sg} (h : OkC σ σ') : ∀ j, j < 9 → Tq 1 σ' j = Tq 1 σ j := fun j hj => h.1 (1 + j) (by omega) (by omega)
/-- .. of the reference -/
def OkM (σ T σ' : Sg) : Prop := (∀ i, i ≠ 45 → i ≠ 46 → i ≠ 48 → i ≠ 50 → σ' i = σ i) ∧ (∀ j, j ≠ 6 → σ' 45 j = σ 45 j) ∧ σ' 48 = flat T ∧ Zr 78 (σ' 46)
theorem OkM_MS {σ T σ' U : Sg} (h : OkM σ T σ') : OkM σ T (MS σ' U) := ⟨fun i h1 h2 h3 h4 => (upr_out h2).trans (h.1 i h1 h2 h3 h4), fun j hj => h.2.1 j hj, h.2.2.1, flat_z U⟩
theorem OkM_50 {σ T σ' : Sg} (h : OkM σ T σ') (f : Nat → Int32) : OkM σ T (upr σ' 50 f) := ⟨fun i h1 h2 h3 h4 => by rw [upr_out h4]; exact h.1 i h1 h2 h3 h4, fun j hj => h.2.1 j hj, h.2.2.1, h.2.2.2⟩
theorem OkM_6 {σ T σ' : Sg} (h : OkM σ T σ') (x : Int32) : OkM σ T (up2 σ' 45 6 x) := ⟨fun i h1 h2 h3 h4 => (upr_out h1).trans (h.1 i h1 h2 h3 h4), fun j hj => (show up2 σ' 45 6 x 45 j = σ' 45 j from upd_ne hj).trans (h.2.1 j hj), h.2.2.1, h.2.2.2⟩
theorem OkM_sv {σ T : Sg} (f46 : σ 46 = flat T) : OkM σ T (sv σ) := ⟨fun i h1 h2 h3 h4 => upr_out h3, fun j hj => rfl, f46, by show Zr 78 (σ 46); rw [f46]; exact flat_z T⟩
theorem J_ord {σ σ1 σ2 : Sg} (h : J σ) (c : OkC σ σ1) (m : OkM σ1 (Tq 1 σ) σ2) (f : σ2 46 = flat (Tq 1 σ)) : J σ2 := by
  refine J_junk h (fun i hi => ?_) ?_ ?_ ?_ (ZT_cong (fun j hj => (m.1 (10 + j) (by omega) (by omega) (by omega) (by omega)).symm) c.2) (by rw [m.2.2.1]; exact flat_z _)
  · unfold Jc at hi
    by_cases q : i = 46
    · rw [q, f, J46 h]
    · rw [m.1 i (by omega) q (by omega) (by omega)]
      exact c.1 i (by omega) (by omega)
  · rw [m.1 32 (by decide) (by decide) (by decide) (by decide), c.1 32 (by decide) (by decide)]
  · rw [m.2.1 4 (by decide), c.1 45 (by decide) (by decide)]
  · rw [m.2.1 8 (by decide), c.1 45 (by decide) (by decide)]
theorem J_ordT {σ σ1 σ2 : Sg} (w : Nat) (h : J σ) (c : OkC σ σ1) (m : OkM (tel σ1 w) (Tq 1 σ) σ2) (f : σ2 46 = flat (Tq 1 σ)) : J (telM σ2 w) := by
  have hj : J (upr σ2 44 (σ1 44)) := by
    refine J_ord h c ⟨fun i h1 h2 h3 h4 => ?_, fun j hj => ?_, ?_, ?_⟩ ?_
    · by_cases q : i = 44
      · rw [q, upr_in]
      · rw [upr_out q, m.1 i h1 h2 h3 h4]
        exact upr_out q
    · rw [upr_out (by decide), m.2.1 j hj]
      rfl
    · rw [upr_out (by decide)]; exact m.2.2.1
    · rw [upr_out (by decide)]; exact m.2.2.2
    · rw [upr_out (by decide)]; exact f
  have e : tel (upr σ2 44 (σ1 44)) w = σ2 := by
    have e44 : σ2 44 = upd (σ1 44) w (σ1 44 w + 1) := by
      rw [m.1 44 (by decide) (by decide) (by decide) (by decide)]
      exact upr_in _ _ _
    show upr (upr σ2 44 (σ1 44)) 44 (upd (upr σ2 44 (σ1 44) 44) w (upr σ2 44 (σ1 44) 44 w + 1)) = σ2
    rw [upr_in, upr_upr, ← e44, upr_self]
  have := J_tell hj w
  rw [e] at this
  exact this
theorem lay_rows {T U : Sg} (e : ∀ j, j < 9 → T j = U j) (n : Nat) (f : Nat → Nat) : ∀ j, j < 9 → layT T n f j = layT U n f j := fun j hj => by
  unfold layT
  rw [e 4 (by decide)]
  by_cases q : j = 4
  · rw [q, upr_in, upr_in]
  · rw [upr_out q, upr_out q, e j hj]
theorem ct_tryG {n h : Nat} {σ T : Sg} (e1 : ∀ j, j < 9 → Tq 1 σ j = T j) (v : VT n h T) (z1 : ZT T) (z10 : ZT (Tq 10 σ)) {f : Nat → Nat} (hf : ∀ k, k < n → f k < n) (e : ∀ k, k < n → σ 29 k = nI (f k)) : Ct mX4_tryOrder [.ref 0] σ (Ex none (putSq 10 (layT T n f) σ)) := by
  have c := ct_tryOrder (VT_cong (fun j hj => (e1 j hj).symm) v) (ZT_cong (fun j hj => (e1 j hj).symm) z1) z10 hf e
  rw [putSq_cong (lay_rows e1 n f)] at c
  exact c
/-- what is sold in the k-th order -/
def slF (n m : Nat) (T : Sg) (k : Nat) : Int32 := hrsS n (layT T n (od n k)) m
theorem slF_n {n h m k : Nat} {T : Sg} (v : VT n h T) (h6 : n ≤ 6) (hm : h + m ≤ 1100) (hk : k < nOd n) : ∃ c, c ≤ 990000 ∧ slF n m T k = nI c := by
  obtain ⟨x, hx, ex⟩ := hrsS_n (VT_lay v (od_lt h6 hk) (od_inj h6 hk)) (show h + m ≤ 2000 by omega) m (Nat.le_refl m)
  exact ⟨x, by omega, ex⟩
theorem am_lt {f : Nat → Int32} (h0 : ∃ c, c ≤ 990000 ∧ f 0 = nI c) : ∀ i, (am f 0 (-1) (i + 1)).1 < i + 1
  | 0 => by
    unfold am
    split
    · exact Nat.zero_lt_one
    · exact Nat.zero_lt_one
  | i + 1 => by
    have ih := am_lt h0 i
    rw [am]
    split
    · show i + 1 < i + 1 + 1
      omega
    · omega
theorem am_first {f : Nat → Int32} (h0 : ∃ c, c ≤ 990000 ∧ f 0 = nI c) : ¬ f 0 ≤ -1 := by
  obtain ⟨c, hc, e⟩ := h0
  rw [e, i_le, nI_toInt (by omega)]
  rw [show (-1 : Int32).toInt = -1 from by decide]
  omega
theorem getD_some {α : Type} {o : Option α} {g d : α} (h : o = some g) : o.getD d = g := by rw [h]; rfl
theorem ct_searchMost {σ : Sg} (h : J σ) {n hh m : Nat} (v : VT n hh (Tq 1 σ)) (h9 : hh ≤ 999) (h6 : n ≤ 6) (hm : m ≤ 24) {nv : Int32} (en : nv = nI m) : Ct mX4_searchMost [.ref 0, .int nv] σ (fun r σ' => r = some (.int (am (slF n m (Tq 1 σ)) 0 (-1) (nOd n)).2) ∧ OkC σ σ' ∧ ∀ i, i < n → σ' 31 i = nI (od n (am (slF n m (Tq 1 σ)) 0 (-1) (nOd n)).1 i)) := by
  have z1 := h.2.1.1
  have z10 := h.2.1.2.1
  obtain ⟨n0, n7⟩ := nOd_pos h6
  have s0 : ∃ c, c ≤ 990000 ∧ slF n m (Tq 1 σ) 0 = nI c := slF_n v h6 (by omega) n0
  obtain ⟨T, hT⟩ : ∃ T : Sg, T = Tq 1 σ := ⟨_, rfl⟩
  rw [← hT] at v z1 s0 ⊢
  generalize hN : nOd n = N at n0 n7 ⊢
  refine Ct.of (by decide +kernel) zX4_searchMost (Nat.le_of_ble_eq_true rfl) (by decide) (fun X go => ?_)
  have L : ∀ d k, k + d = N → ∀ τ : Sg, OkC σ τ → τ 28 1 = nI n → (0 < d → ∀ i, i < n → τ 29 i = nI (od n k i)) → (0 < k → ∀ i, i < n → τ 31 i = nI (od n (am (slF n m T) 0 (-1) k).1 i)) → X 20 [(0, .ref 0), (1, .int nv), (2, .int (am (slF n m T) 0 (-1) k).2), (3, .int (nI N)), (4, .int (nI k))] [] τ := by
    intro d
    induction d with
    | zero =>
      intro k hk τ o e1 e2 e3
      have hk : k = N := by omega
      subst hk
      refine go.1 [20] 40 _ _ _ _ ?_
      refine br_t (nI_le (Nat.le_refl _) (by omega)) ?_
      exact And.intro rfl (And.intro o (e3 n0))
    | succ d ih =>
      intro k hk τ o e1 e2 e3
      have hkN : k < nOd n := by omega
      have e2 := e2 (by omega)
      have ol := od_lt h6 hkN
      have vl := VT_lay v ol (od_inj h6 hkN)
      have T60 : ∀ (τ2 : Sg), OkC σ τ2 → τ2 28 1 = nI n → (∀ i, i < n → τ2 29 i = nI (od n k i)) → (∀ i, i < n → τ2 31 i = nI (od n (am (slF n m T) 0 (-1) (k + 1)).1 i)) → ∀ v5 : Int32, X 60 [(0, .ref 0), (1, .int nv), (2, .int (am (slF n m T) 0 (-1) (k + 1)).2), (3, .int (nI N)), (4, .int (nI k)), (5, .int v5)] [] τ2 := by
        intro τ2 o2 a1 a2 a3 v5
        refine go.1 [20] 40 _ _ _ _ ?_
        refine clG (ct_advance (by omega) a1 a2 (fun i hi => by have := ol i hi; omega)) (fun r τ3 hr => ?_)
        obtain ⟨rfl, g, rfl, hg⟩ := hr
        have ihk := ih (k + 1) (by omega) (upr τ2 29 g) (OkC_upr o2 (by decide) g) a1 (fun hd i hi => by
          obtain ⟨g', q1, q2⟩ := od_next h6 (show k + 1 < nOd n by omega)
          rw [upr_in, hg i hi, getD_some q1, q2 i hi]) (fun _ i hi => a3 i hi)
        rw [nI_succ] at ihk
        refine go.2 [0, 1, 2, 3, 4] _ _ _ _ ?_
        exact ihk
      have c1 := ct_tryG (fun j hj => by rw [hT]; exact OkC_1 o j hj) v z1 o.2 ol e2
      have c2 := ct_passHours_10 vl (show hh + m ≤ 2000 by omega) en τ
      refine go.1 [20, 60] 60 _ _ _ _ ?_
      refine br_f (nI_ge (by omega) (by omega)) ?_
      refine cl c1 ?_
      refine cl c2 ?_
      have o1 : OkC σ (putSq 10 (hrsT n (layT T n (od n k)) m) τ) := OkC_put o (ZT_hrs (by omega) (ZT_lay z1 (by omega) _) m)
      refine And.intro (fun (q : slF n m T k ≤ (am (slF n m T) 0 (-1) k).2) => ?_) (fun (q : ¬ slF n m T k ≤ (am (slF n m T) 0 (-1) k).2) => ?_)
      · have q' : ¬ (am (slF n m T) 0 (-1) k).2 < slF n m T k := Int32.not_lt.mpr q
        have hk0 : 0 < k := by
          refine Nat.pos_of_ne_zero (fun z => ?_)
          subst z
          exact am_first s0 q
        have t := T60 _ o1 e1 e2 (fun i hi => by rw [am_f q']; exact e3 hk0 i hi) (slF n m T k)
        rw [am_f q'] at t
        exact t
      · have q' : (am (slF n m T) 0 (-1) k).2 < slF n m T k := Int32.not_le.mp q
        have t := T60 _ (OkC_upr (OkC_upr o1 (i := 30) (by decide) (upd (putSq 10 (hrsT n (layT T n (od n k)) m) τ 30) 1 (putSq 10 (hrsT n (layT T n (od n k)) m) τ 28 1))) (i := 31) (by decide) (va_cpy (putSq 10 (hrsT n (layT T n (od n k)) m) τ 29) (putSq 10 (hrsT n (layT T n (od n k)) m) τ 31) 0 0 8)) e1 e2 (fun i hi => by
          rw [upr_in, am_t q', pk_cpy_in (by omega) (by omega), Nat.sub_zero, Nat.zero_add]
          exact e2 i hi) (slF n m T k)
        rw [am_t q'] at t
        refine cl (ct_obecome _) ?_
        exact t
  refine go.1 [20] 60 _ _ _ _ ?_
  refine cl (ct_obegin (by omega) (show σ 1 9 = nI n by have := v.1.2.2.1; rw [hT] at this; exact this) σ) ?_
  have hfa : nI (fa n) = nI N := by rw [fa_len n (by omega), hN]
  have L0 := L N 0 (by omega) (upr (up2 σ 28 1 (nI n)) 29 (mx nI (σ 29) n)) (OkC_upr (OkC_upr (OkC_rf z10) (by decide) _) (by decide) _) rfl (fun _ i hi => by
    rw [upr_in, od_0 h6 i hi]
    exact if_pos hi) (fun z => absurd z (by decide))
  rw [← hfa] at L0
  exact L0
theorem ct_bestOrder {σ T : Sg} {n hh m q : Nat} (v : VT n hh T) (f46 : σ 46 = flat T) (z48 : Zr 78 (σ 48)) (h9 : hh ≤ 999) (h6 : n ≤ 6) (hm : m ≤ 24) (hq : q < 8) {nv qv : Int32} (en : nv = nI m) (eq : qv = nI q) : Ct mX5_bestOrder [.ref 45, .int qv, .int nv] σ (fun r σ' => r = some (.int (am (slF n m T) 0 (-1) (nOd n)).2) ∧ OkM σ T σ' ∧ σ' 46 = flat T ∧ (q < n → σ' 45 6 = nI (od n (am (slF n m T) 0 (-1) (nOd n)).1 q))) := by
  subst eq
  obtain ⟨n0, n7⟩ := nOd_pos h6
  have z46 : Zr 78 (σ 46) := by rw [f46]; exact flat_z T
  have s0 : ∃ c, c ≤ 990000 ∧ slF n m T 0 = nI c := slF_n v h6 (by omega) n0
  generalize hN : nOd n = N at n0 n7 ⊢
  refine Ct.of (by decide +kernel) zX5_bestOrder (Nat.le_of_ble_eq_true rfl) (by decide) (fun X go => ?_)
  have E : ∀ τ : Sg, OkM σ T τ → (q < n → τ 45 6 = nI (od n (am (slF n m T) 0 (-1) N).1 q)) → X 13 [(0, .ref 45), (1, .int (nI q)), (2, .int nv), (3, .int (am (slF n m T) 0 (-1) N).2), (4, .int 0)] [] τ := by
    intro τ o e6
    refine go.1 [13] 40 _ _ _ _ ?_
    refine br_t (by decide) ?_
    refine cl (ct_putsBack (by rw [o.2.2.1]; exact flat_z T) o.2.2.2) ?_
    rw [o.2.2.1]
    exact And.intro rfl (And.intro (OkM_MS o) (And.intro (upr_in _ _ _) e6))
  have L : ∀ d k, k + (d + 1) = N → ∀ τ : Sg, OkM σ T τ → (∀ i, i < n → τ 50 i = nI (od n k i)) → (0 < k → q < n → τ 45 6 = nI (od n (am (slF n m T) 0 (-1) k).1 q)) → X 13 [(0, .ref 45), (1, .int (nI q)), (2, .int nv), (3, .int (am (slF n m T) 0 (-1) k).2), (4, .int 1)] [] τ := by
    intro d
    induction d with
    | zero =>
      intro k hk τ o e2 e3
      have hkN : k < nOd n := by omega
      have ol := od_lt h6 hkN
      have vl := VT_lay v ol (od_inj h6 hkN)
      have c2 := ct_hoursGo vl (show hh + m ≤ 2000 by omega) en τ
      have N65 : ∀ (τ2 : Sg), OkM σ T τ2 → τ2 46 1 = nI n → (∀ i, i < n → τ2 50 i = nI (od n k i)) → (q < n → τ2 45 6 = nI (od n (am (slF n m T) 0 (-1) (k + 1)).1 q)) → ∀ v4 v5 : Int32, X 65 [(0, .ref 45), (1, .int (nI q)), (2, .int nv), (3, .int (am (slF n m T) 0 (-1) (k + 1)).2), (4, .int v4), (5, .int v5)] [] τ2 := by
        intro τ2 o2 a1 a2 a3 v4 v5
        refine go.1 [13] 40 _ _ _ _ ?_
        refine clG (ct_nextOrder (by omega) a1 a2 (fun i hi => by have := ol i hi; omega)) (fun r τ3 hr => ?_)
        obtain ⟨hr1, g, rfl, hg⟩ := hr
        have hx : nxF n (od n k) = none := od_last h6 (by omega)
        rw [hx] at hr1
        subst hr1
        have hk1 : k + 1 = N := by omega
        have e := E (upr τ2 50 g) (OkM_50 o2 g) (by rw [← hk1]; exact a3)
        rw [← hk1] at e
        refine go.2 [0, 1, 2, 3, 4] _ _ _ _ ?_
        exact e
      refine go.1 [13, 65] 80 _ _ _ _ ?_
      refine br_f (by decide) ?_
      refine cl (ct_lays v o.2.2.1 o.2.2.2 ol e2) ?_
      refine cl c2 ?_
      have o1 : OkM σ T (MS τ (hrsT n (layT T n (od n k)) m)) := OkM_MS o
      refine And.intro (fun (z : slF n m T k ≤ (am (slF n m T) 0 (-1) k).2) => ?_) (fun (z : ¬ slF n m T k ≤ (am (slF n m T) 0 (-1) k).2) => ?_)
      · have z' : ¬ (am (slF n m T) 0 (-1) k).2 < slF n m T k := Int32.not_lt.mpr z
        have hk0 : 0 < k := by
          refine Nat.pos_of_ne_zero (fun z0 => ?_)
          subst z0
          exact am_first s0 z
        refine And.intro ⟨rfl, rfl⟩ ?_
        refine br_t z ?_
        have t := N65 (up2 (MS τ (hrsT n (layT T n (od n k)) m)) 45 6 (MS τ (hrsT n (layT T n (od n k)) m) 45 6)) (OkM_6 o1 _) (VT_hrs vl m (by omega)).1.2.2.1 e2 (fun hqn => by rw [am_f z']; exact e3 hk0 hqn) 1 (slF n m T k)
        rw [am_f z'] at t
        exact t
      · have z' : (am (slF n m T) 0 (-1) k).2 < slF n m T k := Int32.not_le.mp z
        refine Exists.intro q (And.intro ⟨rfl, hq, by omega⟩ ?_)
        refine And.intro ⟨rfl, rfl⟩ ?_
        refine br_f z ?_
        have t := N65 (up2 (MS τ (hrsT n (layT T n (od n k)) m)) 45 6 (τ 50 q)) (OkM_6 o1 _) (VT_hrs vl m (by omega)).1.2.2.1 e2 (fun hqn => by rw [am_t z']; exact e2 q hqn) 1 (slF n m T k)
        rw [am_t z'] at t
        exact t
    | succ d ih =>
      intro k hk τ o e2 e3
      have hkN : k < nOd n := by omega
      have ol := od_lt h6 hkN
      have vl := VT_lay v ol (od_inj h6 hkN)
      have c2 := ct_hoursGo vl (show hh + m ≤ 2000 by omega) en τ
      have N65 : ∀ (τ2 : Sg), OkM σ T τ2 → τ2 46 1 = nI n → (∀ i, i < n → τ2 50 i = nI (od n k i)) → (q < n → τ2 45 6 = nI (od n (am (slF n m T) 0 (-1) (k + 1)).1 q)) → ∀ v4 v5 : Int32, X 65 [(0, .ref 45), (1, .int (nI q)), (2, .int nv), (3, .int (am (slF n m T) 0 (-1) (k + 1)).2), (4, .int v4), (5, .int v5)] [] τ2 := by
        intro τ2 o2 a1 a2 a3 v4 v5
        refine go.1 [13] 40 _ _ _ _ ?_
        refine clG (ct_nextOrder (by omega) a1 a2 (fun i hi => by have := ol i hi; omega)) (fun r τ3 hr => ?_)
        obtain ⟨hr1, g, rfl, hg⟩ := hr
        obtain ⟨g', q1, q2⟩ := od_next h6 (show k + 1 < nOd n by omega)
        rw [q1] at hr1
        subst hr1
        have ihk := ih (k + 1) (by omega) (upr τ2 50 g) (OkM_50 o2 g) (fun i hi => by rw [upr_in, hg i hi, getD_some q1, q2 i hi]) (fun _ => a3)
        refine go.2 [0, 1, 2, 3, 4] _ _ _ _ ?_
        exact ihk
      refine go.1 [13, 65] 80 _ _ _ _ ?_
      refine br_f (by decide) ?_
      refine cl (ct_lays v o.2.2.1 o.2.2.2 ol e2) ?_
      refine cl c2 ?_
      have o1 : OkM σ T (MS τ (hrsT n (layT T n (od n k)) m)) := OkM_MS o
      refine And.intro (fun (z : slF n m T k ≤ (am (slF n m T) 0 (-1) k).2) => ?_) (fun (z : ¬ slF n m T k ≤ (am (slF n m T) 0 (-1) k).2) => ?_)
      · have z' : ¬ (am (slF n m T) 0 (-1) k).2 < slF n m T k := Int32.not_lt.mpr z
        have hk0 : 0 < k := by
          refine Nat.pos_of_ne_zero (fun z0 => ?_)
          subst z0
          exact am_first s0 z
        refine And.intro ⟨rfl, rfl⟩ ?_
        refine br_t z ?_
        have t := N65 (up2 (MS τ (hrsT n (layT T n (od n k)) m)) 45 6 (MS τ (hrsT n (layT T n (od n k)) m) 45 6)) (OkM_6 o1 _) (VT_hrs vl m (by omega)).1.2.2.1 e2 (fun hqn => by rw [am_f z']; exact e3 hk0 hqn) 1 (slF n m T k)
        rw [am_f z'] at t
        exact t
      · have z' : (am (slF n m T) 0 (-1) k).2 < slF n m T k := Int32.not_le.mp z
        refine Exists.intro q (And.intro ⟨rfl, hq, by omega⟩ ?_)
        refine And.intro ⟨rfl, rfl⟩ ?_
        refine br_f z ?_
        have t := N65 (up2 (MS τ (hrsT n (layT T n (od n k)) m)) 45 6 (τ 50 q)) (OkM_6 o1 _) (VT_hrs vl m (by omega)).1.2.2.1 e2 (fun hqn => by rw [am_t z']; exact e2 q hqn) 1 (slF n m T k)
        rw [am_t z'] at t
        exact t
  have L0 := L (N - 1) 0 (by omega) (upr (sv σ) 50 (mx nI (sv σ 50) 8)) (OkM_50 (OkM_sv f46) _) (fun i hi => by
    rw [upr_in, od_0 h6 i hi]
    exact if_pos (by omega)) (fun z => absurd z (by decide))
  refine go.1 [13] 60 _ _ _ _ ?_
  refine cl (ct_sv z46 z48) ?_
  refine cl (ct_firstOrder _) ?_
  exact L0
theorem P_most {σ : Sg} (h : J σ) (nv : Int32) : PairG mX4_most mX5_most [.int nv] σ := by
  have f46 := J46 h
  obtain ⟨n, hh, v, h9⟩ := h.1
  have hn8 := v.1.1
  have z1 := h.2.1.1
  have z48 := h.2.2.2.1.1
  have z46 := J_z46 h
  cases hn : bI nv 1 24 with
  | false =>
    refine Pair.G ?_
    refine Pair_fd h 0 ?_ ?_
    · refine Ct.of (by decide +kernel) zX4_most (Nat.le_of_ble_eq_true rfl) (by decide) (fun X go => ?_)
      refine go.1 [] 100 _ _ _ _ ?_
      refine cl (of_bad h9 v.1.2.2.2 1 (by decide) true hn) ?_
      refine br_f (by decide) ?_
      exact And.intro rfl rfl
    · refine Ct.of (by decide +kernel) zX5_most (Nat.le_of_ble_eq_true rfl) (by decide) (fun X go => ?_)
      refine go.1 [] 100 _ _ _ _ ?_
      refine cl (inM 1 24 hn _) ?_
      refine br_t (by decide) ?_
      refine br_f (by decide) ?_
      refine cl (ct_finds (w := 0) (by decide) fd0 _) ?_
      exact And.intro rfl rfl
  | true =>
    obtain ⟨m, hm1, hm2, en⟩ := bI_n hn (by decide) (by decide)
    by_cases late : 999 < hh + m
    · refine Pair.G ?_
      refine Pair_fd h 4 ?_ ?_
      · refine Ct.of (by decide +kernel) zX4_most (Nat.le_of_ble_eq_true rfl) (by decide) (fun X go => ?_)
        refine go.1 [] 100 _ _ _ _ ?_
        refine cl (of_late h9 v.1.2.2.2 1 (by decide) hn en (by omega) late) ?_
        refine br_f (by decide) ?_
        exact And.intro rfl rfl
      · refine Ct.of (by decide +kernel) zX5_most (Nat.le_of_ble_eq_true rfl) (by decide) (fun X go => ?_)
        refine go.1 [] 100 _ _ _ _ ?_
        refine cl (inM 1 24 hn _) ?_
        refine br_f (by decide) ?_
        refine cl (ow_late h9 (σ := tel σ 4) f46 v.1.2.2.2 en (by omega) late) ?_
        refine br_f (by decide) ?_
        refine cl (ct_finds (w := 4) (by decide) fd4 _) ?_
        exact And.intro rfl rfl
    · by_cases h6 : 6 < n
      · refine Pair.G ?_
        refine Pair_fd h 6 ?_ ?_
        · refine Ct.of (by decide +kernel) zX4_most (Nat.le_of_ble_eq_true rfl) (by decide) (fun X go => ?_)
          refine go.1 [] 100 _ _ _ _ ?_
          refine cl (of_size h9 v.1.2.2.2 v.1.2.2.1 hn8 h6 1 (by decide) hn en (by omega) late) ?_
          refine br_f (by decide) ?_
          exact And.intro rfl rfl
        · refine Ct.of (by decide +kernel) zX5_most (Nat.le_of_ble_eq_true rfl) (by decide) (fun X go => ?_)
          refine go.1 [] 100 _ _ _ _ ?_
          refine cl (inM 1 24 hn _) ?_
          refine br_f (by decide) ?_
          refine cl (ow_size h9 (σ := tel σ 6) f46 v.1.2.2.2 v.1.2.2.1 hn8 h6 en (by omega) late) ?_
          refine br_f (by decide) ?_
          refine cl (ct_finds (w := 6) (by decide) fd6 _) ?_
          exact And.intro rfl rfl
      · have c1 := ct_searchMost h v h9 (by omega) (show m ≤ 24 by omega) en
        refine ⟨(am (slF n m (Tq 1 σ)) 0 (-1) (nOd n)).2, fun r σ' => r = some (.int (am (slF n m (Tq 1 σ)) 0 (-1) (nOd n)).2) ∧ OkC σ σ', ?_, fun r σ1 hr => ⟨hr.1, ?_⟩⟩
        · refine Ct.of (by decide +kernel) zX4_most (Nat.le_of_ble_eq_true rfl) (by decide) (fun X go => ?_)
          refine go.1 [] 100 _ _ _ _ ?_
          refine cl (of_ok h9 v.1.2.2.2 v.1.2.2.1 (by omega) 1 (by decide) hn en (by omega) late) ?_
          refine br_t (by decide) ?_
          refine clG c1 (fun r σ' hr => ?_)
          obtain ⟨rfl, o, -⟩ := hr
          exact And.intro rfl o
        · obtain ⟨-, o⟩ := hr
          have f1 : σ1 46 = flat (Tq 1 σ) := by rw [o.1 46 (by decide) (by decide)]; exact f46
          have z8 : Zr 78 (σ1 48) := by rw [o.1 48 (by decide) (by decide)]; exact z48
          refine ⟨fun r σ' => r = some (.int (am (slF n m (Tq 1 σ)) 0 (-1) (nOd n)).2) ∧ J σ', ?_, fun r σ2 hr => hr⟩
          refine Ct.of (by decide +kernel) zX5_most (Nat.le_of_ble_eq_true rfl) (by decide) (fun X go => ?_)
          refine go.1 [] 100 _ _ _ _ ?_
          refine cl (inM 1 24 hn _) ?_
          refine br_f (by decide) ?_
          refine cl (ow_ok h9 f1 v.1.2.2.2 v.1.2.2.1 (by omega) en (by omega) late) ?_
          refine br_t (by decide) ?_
          refine clG (ct_bestOrder v f1 z8 h9 (by omega) (show m ≤ 24 by omega) (q := 0) (by decide) en rfl) (fun r σ' hr => ?_)
          obtain ⟨rfl, oM, fM, -⟩ := hr
          exact And.intro rfl (J_ord h o oM fM)
theorem P_order {σ : Sg} (h : J σ) (s nv : Int32) : PairG mX4_order mX5_order [.int s, .int nv] σ := by
  have f46 := J46 h
  obtain ⟨n, hh, v, h9⟩ := h.1
  have hn8 := v.1.1
  have z1 := h.2.1.1
  have z48 := h.2.2.2.1.1
  have z46 := J_z46 h
  cases hs : bI s 0 ((n : Int) - 1) with
  | false =>
    refine Pair.G ?_
    refine Pair_fd h 0 ?_ ?_
    · refine Ct.of (by decide +kernel) zX4_order (Nat.le_of_ble_eq_true rfl) (by decide) (fun X go => ?_)
      refine go.1 [] 100 _ _ _ _ ?_
      refine cl (isS v hs) ?_
      refine cl (of_bad h9 v.1.2.2.2 1 (by decide) false rfl) ?_
      refine br_f (by decide) ?_
      exact And.intro rfl rfl
    · refine Ct.of (by decide +kernel) zX5_order (Nat.le_of_ble_eq_true rfl) (by decide) (fun X go => ?_)
      refine go.1 [] 100 _ _ _ _ ?_
      refine cl (isSM v (σ := tel σ 0) f46 hs) ?_
      refine br_t (by decide) ?_
      refine br_f (by decide) ?_
      refine cl (ct_finds (w := 0) (by decide) fd0 _) ?_
      exact And.intro rfl rfl
  | true =>
    cases hn : bI nv 1 24 with
    | false =>
      refine Pair.G ?_
      refine Pair_fd h 0 ?_ ?_
      · refine Ct.of (by decide +kernel) zX4_order (Nat.le_of_ble_eq_true rfl) (by decide) (fun X go => ?_)
        refine go.1 [] 100 _ _ _ _ ?_
        refine cl (isS v hs) ?_
        refine cl (of_bad h9 v.1.2.2.2 1 (by decide) true hn) ?_
        refine br_f (by decide) ?_
        exact And.intro rfl rfl
      · refine Ct.of (by decide +kernel) zX5_order (Nat.le_of_ble_eq_true rfl) (by decide) (fun X go => ?_)
        refine go.1 [] 100 _ _ _ _ ?_
        refine cl (isSM v (σ := tel σ 0) f46 hs) ?_
        refine br_f (by decide) ?_
        refine cl (inM 1 24 hn _) ?_
        refine br_t (by decide) ?_
        refine br_f (by decide) ?_
        refine cl (ct_finds (w := 0) (by decide) fd0 _) ?_
        exact And.intro rfl rfl
    | true =>
      obtain ⟨m, hm1, hm2, en⟩ := bI_n hn (by decide) (by decide)
      by_cases late : 999 < hh + m
      · refine Pair.G ?_
        refine Pair_fd h 4 ?_ ?_
        · refine Ct.of (by decide +kernel) zX4_order (Nat.le_of_ble_eq_true rfl) (by decide) (fun X go => ?_)
          refine go.1 [] 100 _ _ _ _ ?_
          refine cl (isS v hs) ?_
          refine cl (of_late h9 v.1.2.2.2 1 (by decide) hn en (by omega) late) ?_
          refine br_f (by decide) ?_
          exact And.intro rfl rfl
        · refine Ct.of (by decide +kernel) zX5_order (Nat.le_of_ble_eq_true rfl) (by decide) (fun X go => ?_)
          refine go.1 [] 100 _ _ _ _ ?_
          refine cl (isSM v (σ := tel σ 4) f46 hs) ?_
          refine br_f (by decide) ?_
          refine cl (inM 1 24 hn _) ?_
          refine br_f (by decide) ?_
          refine cl (ow_late h9 (σ := tel σ 4) f46 v.1.2.2.2 en (by omega) late) ?_
          refine br_f (by decide) ?_
          refine cl (ct_finds (w := 4) (by decide) fd4 _) ?_
          exact And.intro rfl rfl
      · by_cases h6 : 6 < n
        · refine Pair.G ?_
          refine Pair_fd h 6 ?_ ?_
          · refine Ct.of (by decide +kernel) zX4_order (Nat.le_of_ble_eq_true rfl) (by decide) (fun X go => ?_)
            refine go.1 [] 100 _ _ _ _ ?_
            refine cl (isS v hs) ?_
            refine cl (of_size h9 v.1.2.2.2 v.1.2.2.1 hn8 h6 1 (by decide) hn en (by omega) late) ?_
            refine br_f (by decide) ?_
            exact And.intro rfl rfl
          · refine Ct.of (by decide +kernel) zX5_order (Nat.le_of_ble_eq_true rfl) (by decide) (fun X go => ?_)
            refine go.1 [] 100 _ _ _ _ ?_
            refine cl (isSM v (σ := tel σ 6) f46 hs) ?_
            refine br_f (by decide) ?_
            refine cl (inM 1 24 hn _) ?_
            refine br_f (by decide) ?_
            refine cl (ow_size h9 (σ := tel σ 6) f46 v.1.2.2.2 v.1.2.2.1 hn8 h6 en (by omega) late) ?_
            refine br_f (by decide) ?_
            refine cl (ct_finds (w := 6) (by decide) fd6 _) ?_
            exact And.intro rfl rfl
        · obtain ⟨k, hk, rfl⟩ := st_n v.1.1 hs
          have c1 := ct_searchMost h v h9 (by omega) (show m ≤ 24 by omega) en
          generalize hw : (am (slF n m (Tq 1 σ)) 0 (-1) (nOd n)).1 = w at c1
          refine ⟨nI (od n w k), fun r σ' => r = some (.int (nI (od n w k))) ∧ OkC σ σ', ?_, fun r σ1 hr => ⟨hr.1, ?_⟩⟩
          · refine Ct.of (by decide +kernel) zX4_order (Nat.le_of_ble_eq_true rfl) (by decide) (fun X go => ?_)
            refine go.1 [] 100 _ _ _ _ ?_
            refine cl (isS v hs) ?_
            refine cl (of_ok h9 v.1.2.2.2 v.1.2.2.1 (by omega) 1 (by decide) hn en (by omega) late) ?_
            refine br_t (by decide) ?_
            refine clG c1 (fun r σ' hr => ?_)
            obtain ⟨rfl, o, e⟩ := hr
            refine Exists.intro k (And.intro ⟨rfl, by omega, by omega⟩ ?_)
            rw [e k hk]
            exact And.intro rfl o
          · obtain ⟨-, o⟩ := hr
            have f1 : σ1 46 = flat (Tq 1 σ) := by rw [o.1 46 (by decide) (by decide)]; exact f46
            have z8 : Zr 78 (σ1 48) := by rw [o.1 48 (by decide) (by decide)]; exact z48
            refine ⟨fun r σ' => r = some (.int (nI (od n w k))) ∧ J σ', ?_, fun r σ2 hr => hr⟩
            refine Ct.of (by decide +kernel) zX5_order (Nat.le_of_ble_eq_true rfl) (by decide) (fun X go => ?_)
            refine go.1 [] 100 _ _ _ _ ?_
            refine cl (isSM v f1 hs) ?_
            refine br_f (by decide) ?_
            refine cl (inM 1 24 hn _) ?_
            refine br_f (by decide) ?_
            refine cl (ow_ok h9 f1 v.1.2.2.2 v.1.2.2.1 (by omega) en (by omega) late) ?_
            refine br_t (by decide) ?_
            refine clG (ct_bestOrder v f1 z8 h9 (by omega) (show m ≤ 24 by omega) (q := k) (by omega) en rfl) (fun r σ' hr => ?_)
            obtain ⟨rfl, oM, fM, e⟩ := hr
            have e := e hk
            rw [hw] at e
            refine And.intro ?_ (J_ord h o oM fM)
            show some (Value.int (σ' 45 6)) = _
            rw [e]
