/-! SHEETS -/
def nrw (b v : Int32) : Int32 := if b = 8 then v.toInt8.toInt32 else if b = 16 then v.toInt16.toInt32 else v
def z0f : Nat → Int32 := fun _ => 0
/-- only a sheet is changed -/
theorem J_sheet {σ σ' : Sg} (h : J σ) (e : ∀ i, (i < 35 ∨ 43 ≤ i) → i ≠ 52 → i ≠ 53 → i ≠ 54 → i ≠ 55 → σ' i = σ i) (sh : ∀ s, s < 4 → Jsh σ' s) : J σ' := by
  refine J_other (σ := σ) h (fun i h1 h2 => e i (by omega) (by omega) (by omega) (by omega) (by omega)) (e 46 (by omega) (by decide) (by decide) (by decide) (by decide)) (e 47 (by omega) (by decide) (by decide) (by decide) (by decide)) (e 48 (by omega) (by decide) (by decide) (by decide) (by decide)) (Jkp_cong (σ := σ) ?_ ?_ (fun i h1 h2 => e i (by omega) (by omega) (by omega) (by omega) (by omega)) (e 47 (by omega) (by decide) (by decide) (by decide) (by decide)) (J_kp h)) ?_ (Jtape_cong (σ := σ) ?_ ?_ ?_ ?_ (J_tp h)) sh
  · rw [e 0 (by omega) (by decide) (by decide) (by decide) (by decide)]
  · rw [e 45 (by omega) (by decide) (by decide) (by decide) (by decide)]
  · rw [e 44 (by omega) (by decide) (by decide) (by decide) (by decide), e 49 (by omega) (by decide) (by decide) (by decide) (by decide)]
    exact J_st h
  · rw [e 32 (by omega) (by decide) (by decide) (by decide) (by decide)]
  · rw [e 45 (by omega) (by decide) (by decide) (by decide) (by decide)]
  · exact e 33 (by omega) (by decide) (by decide) (by decide) (by decide)
  · exact e 51 (by omega) (by decide) (by decide) (by decide) (by decide)
theorem J_sh1 {σ σ' : Sg} (h : J σ) (s : Nat) (e : ∀ i, (i < 35 ∨ 43 ≤ i) → i ≠ 52 → i ≠ 53 → i ≠ 54 → i ≠ 55 → σ' i = σ i) (e1 : ∀ t, t < 4 → t ≠ s → σ' (35 + 2 * t) = σ (35 + 2 * t) ∧ σ' (36 + 2 * t) = σ (36 + 2 * t)) (e2 : ∀ t, t < 4 → t ≠ s → σ' 52 t = σ 52 t ∧ σ' 53 t = σ 53 t) (e3 : ∀ j, (j < 40 * s ∨ 40 * s + 40 ≤ j) → σ' 54 j = σ 54 j) (hs : Jsh σ' s) : J σ' := by
  refine J_sheet h e (fun t ht => ?_)
  by_cases q : t = s
  · rw [q]; exact hs
  · obtain ⟨len, l1, l2, l3, l4, l5, l6⟩ := J_sh h t ht
    obtain ⟨a1, a2⟩ := e1 t ht q
    obtain ⟨b1, b2⟩ := e2 t ht q
    refine ⟨len, l1, by rw [a1]; exact l2, by rw [b2]; exact l3, by rw [a1, b1]; exact l4, by rw [b1]; exact l5, fun i hi => ?_⟩
    rw [a2, e3 (40 * t + i) (by omega)]
    exact l6 i hi
theorem ct_nrw (b v : Int32) (σ : Sg) : Ct mX5_narrowed [.int b, .int v] σ (Ex (some (.int (nrw b v))) σ) := by
  refine Ct.of (by decide +kernel) zX5_narrowed (Nat.le_of_ble_eq_true rfl) (by decide) (fun X go => ?_)
  refine go.1 [] 100 _ _ _ _ ?_
  unfold nrw
  refine And.intro (fun (h : b = 8) => ?_) (fun (h : ¬ b = 8) => ?_)
  · rw [if_pos h]; exact And.intro rfl rfl
  · rw [if_neg h]
    refine And.intro (fun (h : b = 16) => ?_) (fun (h : ¬ b = 16) => ?_)
    · rw [if_pos h]; exact And.intro rfl rfl
    · rw [if_neg h]; exact And.intro rfl rfl
theorem ct_wrong_bad {s : Int32} (hs : bI s 0 3 = false) (σ : Sg) : Ct mX5_wrong [.ref 45, .int s] σ (Ex (some (.int (fd 0))) σ) := by
  refine Ct.of (by decide +kernel) zX5_wrong (Nat.le_of_ble_eq_true rfl) (by decide) (fun X go => ?_)
  refine go.1 [] 100 _ _ _ _ ?_
  refine cl (isOM hs _) ?_
  refine br_t (by decide) ?_
  exact And.intro rfl rfl
theorem ct_wrong_no {s : Nat} (hs : s < 4) {σ : Sg} (e : σ 52 s = 0) : Ct mX5_wrong [.ref 45, .int (nI s)] σ (Ex (some (.int (fd 5))) σ) := by
  refine Ct.of (by decide +kernel) zX5_wrong (Nat.le_of_ble_eq_true rfl) (by decide) (fun X go => ?_)
  refine go.1 [] 100 _ _ _ _ ?_
  refine cl (isOM (b := true) (by rw [nI_bI (by omega)]; exact decide_eq_true (by omega)) _) ?_
  refine br_f (by decide) ?_
  refine Exists.intro (s) (And.intro ⟨rfl, by omega, by omega⟩ ?_)
  refine br_t e ?_
  exact And.intro rfl rfl
theorem ct_wrong_ok {s : Nat} (hs : s < 4) {σ : Sg} (e : ¬ σ 52 s = 0) : Ct mX5_wrong [.ref 45, .int (nI s)] σ (Ex (some (.int 0)) σ) := by
  refine Ct.of (by decide +kernel) zX5_wrong (Nat.le_of_ble_eq_true rfl) (by decide) (fun X go => ?_)
  refine go.1 [] 100 _ _ _ _ ?_
  refine cl (isOM (b := true) (by rw [nI_bI (by omega)]; exact decide_eq_true (by omega)) _) ?_
  refine br_f (by decide) ?_
  refine Exists.intro (s) (And.intro ⟨rfl, by omega, by omega⟩ ?_)
  refine br_f e ?_
  exact And.intro rfl rfl
theorem ct_shF_bad {s : Int32} (hs : bI s 0 3 = false) (σ : Sg) : Ct mX4_sheetFinding [.ref 0, .int s] σ (Ex (some (.int (fd 0))) (tel σ 0)) := by
  refine Ct.of (by decide +kernel) zX4_sheetFinding (Nat.le_of_ble_eq_true rfl) (by decide) (fun X go => ?_)
  refine go.1 [] 100 _ _ _ _ ?_
  refine cl (isSh hs _) ?_
  refine br_t (by decide) ?_
  refine cl (ct_fd (w := 0) (by decide) rfl _) ?_
  exact And.intro rfl rfl
theorem sub40 {len : Nat} (h : len ≤ 40) {x : Int32} (hx : 0 ≤ x.toInt) : (nI len - x).toInt = (len : Int) - x.toInt := by
  rw [Int32.toInt_sub, nI_toInt (by omega)]
  have := Int32.toInt_lt x
  exact Int.bmod_eq_of_le (by omega) (by omega)
theorem dec_f {p : Prop} [Decidable p] (h : ¬ p) : zb (decide p) = 0 := by rw [decide_eq_false h]; rfl
theorem dec_t {p : Prop} [Decidable p] (h : p) : zb (decide p) = 1 := by rw [decide_eq_true h]; rfl
theorem lt0 (x : Int32) : x < 0 ↔ x.toInt < 0 := i_lt x 0

theorem ct_fill_0 (σ : Sg) : Ct mJ7_fill_53178 [.ref 36, .int 0] σ (Ex none (upr σ 36 (mx z0f (σ 36) 40))) := by
  refine CtF (by decide +kernel) zJ7_fill_53178 (Nat.le_of_ble_eq_true rfl) (by decide) (fun X go => ?_)
  have L : ∀ d k, k + d = 40 → X 5 [(0, .ref 36), (1, .int 0), (2, .int (nI k)), (3, .int 40)] [] (upr σ 36 (mx z0f (σ 36) k)) := by
    intro d
    induction d with
    | zero =>
      intro k hk
      have hk : k = 40 := by omega
      subst hk
      refine go.1 [5] 20 _ _ _ _ ?_
      refine br_t (by decide) ?_
      exact And.intro rfl rfl
    | succ d ih =>
      intro k hk
      have ihk := ih (k + 1) (by omega)
      have es : up2 (upr σ 36 (mx z0f (σ 36) k)) 36 k 0 = upr σ 36 (mx z0f (σ 36) (k + 1)) := by
        show upr (upr σ 36 (mx z0f (σ 36) k)) 36 (upd (upr σ 36 (mx z0f (σ 36) k) 36) k _) = _
        rw [upr_in, upr_upr, ← mx_upd]
        rfl
      rw [nI_succ, ← es] at ihk
      refine go.1 [5] 20 _ _ _ _ ?_
      refine br_f (show ¬ nI 40 ≤ nI k from nI_ge (by omega) (by omega)) ?_
      refine Exists.intro k (And.intro ⟨rfl, by omega, by omega⟩ ?_)
      exact ihk
  have L0 := L 40 0 (by omega)
  rw [mx_0, upr_self] at L0
  exact go.1 [5] 20 _ _ _ _ L0
theorem ct_shbegin_0 (b l : Int32) (σ : Sg) : Ct mX1_begin [.ref 35, .int b, .int l] σ (Ex none (upr (up2 (up2 σ 35 1 b) 35 2 l) 36 (mx z0f (σ 36) 40))) := by
  refine Ct.of (by decide +kernel) zX1_begin (Nat.le_of_ble_eq_true rfl) (by decide) (fun X go => ?_)
  refine go.1 [] 60 _ _ _ _ ?_
  refine And.intro ⟨rfl, rfl⟩ ?_
  refine And.intro ⟨rfl, rfl⟩ ?_
  refine cl (ct_fill_0 (up2 (up2 σ 35 1 b) 35 2 l)) ?_
  exact And.intro rfl rfl
theorem ct_put_0 {i : Nat} (hi : i < 40) (v : Int32) (σ : Sg) : Ct mX1_put [.ref 35, .int (nI i), .int v] σ (Ex none (up2 σ 36 i (nrw (σ 35 1) v))) := by
  refine Ct.of (by decide +kernel) zX1_put (Nat.le_of_ble_eq_true rfl) (by decide) (fun X go => ?_)
  refine go.1 [] 60 _ _ _ _ ?_
  unfold nrw
  refine And.intro (fun (h : σ 35 1 = 8) => ?_) (fun (h : ¬ σ 35 1 = 8) => ?_)
  · rw [if_pos h]
    refine Exists.intro (i) (And.intro ⟨rfl, by omega, by omega⟩ ?_)
    exact And.intro rfl rfl
  · rw [if_neg h]
    refine And.intro (fun (h : σ 35 1 = 16) => ?_) (fun (h : ¬ σ 35 1 = 16) => ?_)
    · rw [if_pos h]
      refine Exists.intro (i) (And.intro ⟨rfl, by omega, by omega⟩ ?_)
      exact And.intro rfl rfl
    · rw [if_neg h]
      refine Exists.intro (i) (And.intro ⟨rfl, by omega, by omega⟩ ?_)
      exact And.intro rfl rfl
theorem ct_hasPart_0 {len : Nat} (hl : len ≤ 40) {σ : Sg} (e : σ 35 2 = nI len) (f n : Int32) : Ct mX1_hasPart [.ref 35, .int f, .int n] σ (Ex (some (.int (zb (decide (0 ≤ f.toInt ∧ 0 ≤ n.toInt ∧ n.toInt ≤ (len : Int) - f.toInt))))) σ) := by
  have et : (σ 35 2).toInt = len := by rw [e]; exact nI_toInt (by omega)
  refine Ct.of (by decide +kernel) zX1_hasPart (Nat.le_of_ble_eq_true rfl) (by decide) (fun X go => ?_)
  refine go.1 [] 60 _ _ _ _ ?_
  refine And.intro (fun (q : f < 0) => ?_) (fun (q : ¬ f < 0) => ?_)
  · rw [lt0] at q
    rw [dec_f (by omega)]
    exact And.intro (Or.inl rfl) (And.intro rfl rfl)
  · rw [lt0] at q
    refine And.intro (fun (r : n < 0) => ?_) (fun (r : ¬ n < 0) => ?_)
    · rw [lt0] at r
      rw [dec_f (by omega)]
      exact And.intro (Or.inl rfl) (And.intro rfl rfl)
    · rw [lt0] at r
      refine And.intro (fun (u : σ 35 2 < n) => ?_) (fun (u : ¬ σ 35 2 < n) => ?_)
      · rw [i_lt, et] at u
        rw [dec_f (by omega)]
        exact And.intro (Or.inl rfl) (And.intro rfl rfl)
      · rw [i_lt, et] at u
        refine And.intro (fun (w : σ 35 2 - n < f) => ?_) (fun (w : ¬ σ 35 2 - n < f) => ?_)
        · rw [i_lt, e, sub40 hl (by omega)] at w
          rw [dec_f (by omega)]
          exact And.intro (Or.inl rfl) (And.intro rfl rfl)
        · rw [i_lt, e, sub40 hl (by omega)] at w
          rw [dec_t (by omega)]
          exact And.intro (Or.inr rfl) (And.intro rfl rfl)
theorem ct_shF_no_0 {σ : Sg} (e : σ 35 1 = 0) : Ct mX4_sheetFinding [.ref 0, .int (nI 0)] σ (Ex (some (.int (fd 5))) (tel σ 5)) := by
  refine Ct.of (by decide +kernel) zX4_sheetFinding (Nat.le_of_ble_eq_true rfl) (by decide) (fun X go => ?_)
  refine go.1 [] 100 _ _ _ _ ?_
  refine cl (isSh (b := true) rfl _) ?_
  refine br_f (by decide) ?_
  refine Exists.intro (0) (And.intro ⟨rfl, by decide, by omega⟩ ?_)
  refine br_t e ?_
  refine cl (ct_fd (w := 5) (by decide) rfl _) ?_
  exact And.intro rfl rfl
theorem ct_shF_ok_0 {σ : Sg} (e : ¬ σ 35 1 = 0) : Ct mX4_sheetFinding [.ref 0, .int (nI 0)] σ (Ex (some (.int 0)) σ) := by
  refine Ct.of (by decide +kernel) zX4_sheetFinding (Nat.le_of_ble_eq_true rfl) (by decide) (fun X go => ?_)
  refine go.1 [] 100 _ _ _ _ ?_
  refine cl (isSh (b := true) rfl _) ?_
  refine br_f (by decide) ?_
  refine Exists.intro (0) (And.intro ⟨rfl, by decide, by omega⟩ ?_)
  refine br_f e ?_
  exact And.intro rfl rfl

theorem ct_fill_1 (σ : Sg) : Ct mJ7_fill_53178 [.ref 38, .int 0] σ (Ex none (upr σ 38 (mx z0f (σ 38) 40))) := by
  refine CtF (by decide +kernel) zJ7_fill_53178 (Nat.le_of_ble_eq_true rfl) (by decide) (fun X go => ?_)
  have L : ∀ d k, k + d = 40 → X 5 [(0, .ref 38), (1, .int 0), (2, .int (nI k)), (3, .int 40)] [] (upr σ 38 (mx z0f (σ 38) k)) := by
    intro d
    induction d with
    | zero =>
      intro k hk
      have hk : k = 40 := by omega
      subst hk
      refine go.1 [5] 20 _ _ _ _ ?_
      refine br_t (by decide) ?_
      exact And.intro rfl rfl
    | succ d ih =>
      intro k hk
      have ihk := ih (k + 1) (by omega)
      have es : up2 (upr σ 38 (mx z0f (σ 38) k)) 38 k 0 = upr σ 38 (mx z0f (σ 38) (k + 1)) := by
        show upr (upr σ 38 (mx z0f (σ 38) k)) 38 (upd (upr σ 38 (mx z0f (σ 38) k) 38) k _) = _
        rw [upr_in, upr_upr, ← mx_upd]
        rfl
      rw [nI_succ, ← es] at ihk
      refine go.1 [5] 20 _ _ _ _ ?_
      refine br_f (show ¬ nI 40 ≤ nI k from nI_ge (by omega) (by omega)) ?_
      refine Exists.intro k (And.intro ⟨rfl, by omega, by omega⟩ ?_)
      exact ihk
  have L0 := L 40 0 (by omega)
  rw [mx_0, upr_self] at L0
  exact go.1 [5] 20 _ _ _ _ L0
theorem ct_shbegin_1 (b l : Int32) (σ : Sg) : Ct mX1_begin [.ref 37, .int b, .int l] σ (Ex none (upr (up2 (up2 σ 37 1 b) 37 2 l) 38 (mx z0f (σ 38) 40))) := by
  refine Ct.of (by decide +kernel) zX1_begin (Nat.le_of_ble_eq_true rfl) (by decide) (fun X go => ?_)
  refine go.1 [] 60 _ _ _ _ ?_
  refine And.intro ⟨rfl, rfl⟩ ?_
  refine And.intro ⟨rfl, rfl⟩ ?_
  refine cl (ct_fill_1 (up2 (up2 σ 37 1 b) 37 2 l)) ?_
  exact And.intro rfl rfl
theorem ct_put_1 {i : Nat} (hi : i < 40) (v : Int32) (σ : Sg) : Ct mX1_put [.ref 37, .int (nI i), .int v] σ (Ex none (up2 σ 38 i (nrw (σ 37 1) v))) := by
  refine Ct.of (by decide +kernel) zX1_put (Nat.le_of_ble_eq_true rfl) (by decide) (fun X go => ?_)
  refine go.1 [] 60 _ _ _ _ ?_
  unfold nrw
  refine And.intro (fun (h : σ 37 1 = 8) => ?_) (fun (h : ¬ σ 37 1 = 8) => ?_)
  · rw [if_pos h]
    refine Exists.intro (i) (And.intro ⟨rfl, by omega, by omega⟩ ?_)
    exact And.intro rfl rfl
  · rw [if_neg h]
    refine And.intro (fun (h : σ 37 1 = 16) => ?_) (fun (h : ¬ σ 37 1 = 16) => ?_)
    · rw [if_pos h]
      refine Exists.intro (i) (And.intro ⟨rfl, by omega, by omega⟩ ?_)
      exact And.intro rfl rfl
    · rw [if_neg h]
      refine Exists.intro (i) (And.intro ⟨rfl, by omega, by omega⟩ ?_)
      exact And.intro rfl rfl
theorem ct_hasPart_1 {len : Nat} (hl : len ≤ 40) {σ : Sg} (e : σ 37 2 = nI len) (f n : Int32) : Ct mX1_hasPart [.ref 37, .int f, .int n] σ (Ex (some (.int (zb (decide (0 ≤ f.toInt ∧ 0 ≤ n.toInt ∧ n.toInt ≤ (len : Int) - f.toInt))))) σ) := by
  have et : (σ 37 2).toInt = len := by rw [e]; exact nI_toInt (by omega)
  refine Ct.of (by decide +kernel) zX1_hasPart (Nat.le_of_ble_eq_true rfl) (by decide) (fun X go => ?_)
  refine go.1 [] 60 _ _ _ _ ?_
  refine And.intro (fun (q : f < 0) => ?_) (fun (q : ¬ f < 0) => ?_)
  · rw [lt0] at q
    rw [dec_f (by omega)]
    exact And.intro (Or.inl rfl) (And.intro rfl rfl)
  · rw [lt0] at q
    refine And.intro (fun (r : n < 0) => ?_) (fun (r : ¬ n < 0) => ?_)
    · rw [lt0] at r
      rw [dec_f (by omega)]
      exact And.intro (Or.inl rfl) (And.intro rfl rfl)
    · rw [lt0] at r
      refine And.intro (fun (u : σ 37 2 < n) => ?_) (fun (u : ¬ σ 37 2 < n) => ?_)
      · rw [i_lt, et] at u
        rw [dec_f (by omega)]
        exact And.intro (Or.inl rfl) (And.intro rfl rfl)
      · rw [i_lt, et] at u
        refine And.intro (fun (w : σ 37 2 - n < f) => ?_) (fun (w : ¬ σ 37 2 - n < f) => ?_)
        · rw [i_lt, e, sub40 hl (by omega)] at w
          rw [dec_f (by omega)]
          exact And.intro (Or.inl rfl) (And.intro rfl rfl)
        · rw [i_lt, e, sub40 hl (by omega)] at w
          rw [dec_t (by omega)]
          exact And.intro (Or.inr rfl) (And.intro rfl rfl)
theorem ct_shF_no_1 {σ : Sg} (e : σ 37 1 = 0) : Ct mX4_sheetFinding [.ref 0, .int (nI 1)] σ (Ex (some (.int (fd 5))) (tel σ 5)) := by
  refine Ct.of (by decide +kernel) zX4_sheetFinding (Nat.le_of_ble_eq_true rfl) (by decide) (fun X go => ?_)
  refine go.1 [] 100 _ _ _ _ ?_
  refine cl (isSh (b := true) rfl _) ?_
  refine br_f (by decide) ?_
  refine Exists.intro (1) (And.intro ⟨rfl, by decide, by omega⟩ ?_)
  refine br_t e ?_
  refine cl (ct_fd (w := 5) (by decide) rfl _) ?_
  exact And.intro rfl rfl
theorem ct_shF_ok_1 {σ : Sg} (e : ¬ σ 37 1 = 0) : Ct mX4_sheetFinding [.ref 0, .int (nI 1)] σ (Ex (some (.int 0)) σ) := by
  refine Ct.of (by decide +kernel) zX4_sheetFinding (Nat.le_of_ble_eq_true rfl) (by decide) (fun X go => ?_)
  refine go.1 [] 100 _ _ _ _ ?_
  refine cl (isSh (b := true) rfl _) ?_
  refine br_f (by decide) ?_
  refine Exists.intro (1) (And.intro ⟨rfl, by decide, by omega⟩ ?_)
  refine br_f e ?_
  exact And.intro rfl rfl

theorem ct_fill_2 (σ : Sg) : Ct mJ7_fill_53178 [.ref 40, .int 0] σ (Ex none (upr σ 40 (mx z0f (σ 40) 40))) := by
  refine CtF (by decide +kernel) zJ7_fill_53178 (Nat.le_of_ble_eq_true rfl) (by decide) (fun X go => ?_)
  have L : ∀ d k, k + d = 40 → X 5 [(0, .ref 40), (1, .int 0), (2, .int (nI k)), (3, .int 40)] [] (upr σ 40 (mx z0f (σ 40) k)) := by
    intro d
    induction d with
    | zero =>
      intro k hk
      have hk : k = 40 := by omega
      subst hk
      refine go.1 [5] 20 _ _ _ _ ?_
      refine br_t (by decide) ?_
      exact And.intro rfl rfl
    | succ d ih =>
      intro k hk
      have ihk := ih (k + 1) (by omega)
      have es : up2 (upr σ 40 (mx z0f (σ 40) k)) 40 k 0 = upr σ 40 (mx z0f (σ 40) (k + 1)) := by
        show upr (upr σ 40 (mx z0f (σ 40) k)) 40 (upd (upr σ 40 (mx z0f (σ 40) k) 40) k _) = _
        rw [upr_in, upr_upr, ← mx_upd]
        rfl
      rw [nI_succ, ← es] at ihk
      refine go.1 [5] 20 _ _ _ _ ?_
      refine br_f (show ¬ nI 40 ≤ nI k from nI_ge (by omega) (by omega)) ?_
      refine Exists.intro k (And.intro ⟨rfl, by omega, by omega⟩ ?_)
      exact ihk
  have L0 := L 40 0 (by omega)
  rw [mx_0, upr_self] at L0
  exact go.1 [5] 20 _ _ _ _ L0
theorem ct_shbegin_2 (b l : Int32) (σ : Sg) : Ct mX1_begin [.ref 39, .int b, .int l] σ (Ex none (upr (up2 (up2 σ 39 1 b) 39 2 l) 40 (mx z0f (σ 40) 40))) := by
  refine Ct.of (by decide +kernel) zX1_begin (Nat.le_of_ble_eq_true rfl) (by decide) (fun X go => ?_)
  refine go.1 [] 60 _ _ _ _ ?_
  refine And.intro ⟨rfl, rfl⟩ ?_
  refine And.intro ⟨rfl, rfl⟩ ?_
  refine cl (ct_fill_2 (up2 (up2 σ 39 1 b) 39 2 l)) ?_
  exact And.intro rfl rfl
theorem ct_put_2 {i : Nat} (hi : i < 40) (v : Int32) (σ : Sg) : Ct mX1_put [.ref 39, .int (nI i), .int v] σ (Ex none (up2 σ 40 i (nrw (σ 39 1) v))) := by
  refine Ct.of (by decide +kernel) zX1_put (Nat.le_of_ble_eq_true rfl) (by decide) (fun X go => ?_)
  refine go.1 [] 60 _ _ _ _ ?_
  unfold nrw
  refine And.intro (fun (h : σ 39 1 = 8) => ?_) (fun (h : ¬ σ 39 1 = 8) => ?_)
  · rw [if_pos h]
    refine Exists.intro (i) (And.intro ⟨rfl, by omega, by omega⟩ ?_)
    exact And.intro rfl rfl
  · rw [if_neg h]
    refine And.intro (fun (h : σ 39 1 = 16) => ?_) (fun (h : ¬ σ 39 1 = 16) => ?_)
    · rw [if_pos h]
      refine Exists.intro (i) (And.intro ⟨rfl, by omega, by omega⟩ ?_)
      exact And.intro rfl rfl
    · rw [if_neg h]
      refine Exists.intro (i) (And.intro ⟨rfl, by omega, by omega⟩ ?_)
      exact And.intro rfl rfl
theorem ct_hasPart_2 {len : Nat} (hl : len ≤ 40) {σ : Sg} (e : σ 39 2 = nI len) (f n : Int32) : Ct mX1_hasPart [.ref 39, .int f, .int n] σ (Ex (some (.int (zb (decide (0 ≤ f.toInt ∧ 0 ≤ n.toInt ∧ n.toInt ≤ (len : Int) - f.toInt))))) σ) := by
  have et : (σ 39 2).toInt = len := by rw [e]; exact nI_toInt (by omega)
  refine Ct.of (by decide +kernel) zX1_hasPart (Nat.le_of_ble_eq_true rfl) (by decide) (fun X go => ?_)
  refine go.1 [] 60 _ _ _ _ ?_
  refine And.intro (fun (q : f < 0) => ?_) (fun (q : ¬ f < 0) => ?_)
  · rw [lt0] at q
    rw [dec_f (by omega)]
    exact And.intro (Or.inl rfl) (And.intro rfl rfl)
  · rw [lt0] at q
    refine And.intro (fun (r : n < 0) => ?_) (fun (r : ¬ n < 0) => ?_)
    · rw [lt0] at r
      rw [dec_f (by omega)]
      exact And.intro (Or.inl rfl) (And.intro rfl rfl)
    · rw [lt0] at r
      refine And.intro (fun (u : σ 39 2 < n) => ?_) (fun (u : ¬ σ 39 2 < n) => ?_)
      · rw [i_lt, et] at u
        rw [dec_f (by omega)]
        exact And.intro (Or.inl rfl) (And.intro rfl rfl)
      · rw [i_lt, et] at u
        refine And.intro (fun (w : σ 39 2 - n < f) => ?_) (fun (w : ¬ σ 39 2 - n < f) => ?_)
        · rw [i_lt, e, sub40 hl (by omega)] at w
          rw [dec_f (by omega)]
          exact And.intro (Or.inl rfl) (And.intro rfl rfl)
        · rw [i_lt, e, sub40 hl (by omega)] at w
          rw [dec_t (by omega)]
          exact And.intro (Or.inr rfl) (And.intro rfl rfl)
theorem ct_shF_no_2 {σ : Sg} (e : σ 39 1 = 0) : Ct mX4_sheetFinding [.ref 0, .int (nI 2)] σ (Ex (some (.int (fd 5))) (tel σ 5)) := by
  refine Ct.of (by decide +kernel) zX4_sheetFinding (Nat.le_of_ble_eq_true rfl) (by decide) (fun X go => ?_)
  refine go.1 [] 100 _ _ _ _ ?_
  refine cl (isSh (b := true) rfl _) ?_
  refine br_f (by decide) ?_
  refine Exists.intro (2) (And.intro ⟨rfl, by decide, by omega⟩ ?_)
  refine br_t e ?_
  refine cl (ct_fd (w := 5) (by decide) rfl _) ?_
  exact And.intro rfl rfl
theorem ct_shF_ok_2 {σ : Sg} (e : ¬ σ 39 1 = 0) : Ct mX4_sheetFinding [.ref 0, .int (nI 2)] σ (Ex (some (.int 0)) σ) := by
  refine Ct.of (by decide +kernel) zX4_sheetFinding (Nat.le_of_ble_eq_true rfl) (by decide) (fun X go => ?_)
  refine go.1 [] 100 _ _ _ _ ?_
  refine cl (isSh (b := true) rfl _) ?_
  refine br_f (by decide) ?_
  refine Exists.intro (2) (And.intro ⟨rfl, by decide, by omega⟩ ?_)
  refine br_f e ?_
  exact And.intro rfl rfl

theorem ct_fill_3 (σ : Sg) : Ct mJ7_fill_53178 [.ref 42, .int 0] σ (Ex none (upr σ 42 (mx z0f (σ 42) 40))) := by
  refine CtF (by decide +kernel) zJ7_fill_53178 (Nat.le_of_ble_eq_true rfl) (by decide) (fun X go => ?_)
  have L : ∀ d k, k + d = 40 → X 5 [(0, .ref 42), (1, .int 0), (2, .int (nI k)), (3, .int 40)] [] (upr σ 42 (mx z0f (σ 42) k)) := by
    intro d
    induction d with
    | zero =>
      intro k hk
      have hk : k = 40 := by omega
      subst hk
      refine go.1 [5] 20 _ _ _ _ ?_
      refine br_t (by decide) ?_
      exact And.intro rfl rfl
    | succ d ih =>
      intro k hk
      have ihk := ih (k + 1) (by omega)
      have es : up2 (upr σ 42 (mx z0f (σ 42) k)) 42 k 0 = upr σ 42 (mx z0f (σ 42) (k + 1)) := by
        show upr (upr σ 42 (mx z0f (σ 42) k)) 42 (upd (upr σ 42 (mx z0f (σ 42) k) 42) k _) = _
        rw [upr_in, upr_upr, ← mx_upd]
        rfl
      rw [nI_succ, ← es] at ihk
      refine go.1 [5] 20 _ _ _ _ ?_
      refine br_f (show ¬ nI 40 ≤ nI k from nI_ge (by omega) (by omega)) ?_
      refine Exists.intro k (And.intro ⟨rfl, by omega, by omega⟩ ?_)
      exact ihk
  have L0 := L 40 0 (by omega)
  rw [mx_0, upr_self] at L0
  exact go.1 [5] 20 _ _ _ _ L0
theorem ct_shbegin_3 (b l : Int32) (σ : Sg) : Ct mX1_begin [.ref 41, .int b, .int l] σ (Ex none (upr (up2 (up2 σ 41 1 b) 41 2 l) 42 (mx z0f (σ 42) 40))) := by
  refine Ct.of (by decide +kernel) zX1_begin (Nat.le_of_ble_eq_true rfl) (by decide) (fun X go => ?_)
  refine go.1 [] 60 _ _ _ _ ?_
  refine And.intro ⟨rfl, rfl⟩ ?_
  refine And.intro ⟨rfl, rfl⟩ ?_
  refine cl (ct_fill_3 (up2 (up2 σ 41 1 b) 41 2 l)) ?_
  exact And.intro rfl rfl
theorem ct_put_3 {i : Nat} (hi : i < 40) (v : Int32) (σ : Sg) : Ct mX1_put [.ref 41, .int (nI i), .int v] σ (Ex none (up2 σ 42 i (nrw (σ 41 1) v))) := by
  refine Ct.of (by decide +kernel) zX1_put (Nat.le_of_ble_eq_true rfl) (by decide) (fun X go => ?_)
  refine go.1 [] 60 _ _ _ _ ?_
  unfold nrw
  refine And.intro (fun (h : σ 41 1 = 8) => ?_) (fun (h : ¬ σ 41 1 = 8) => ?_)
  · rw [if_pos h]
    refine Exists.intro (i) (And.intro ⟨rfl, by omega, by omega⟩ ?_)
    exact And.intro rfl rfl
  · rw [if_neg h]
    refine And.intro (fun (h : σ 41 1 = 16) => ?_) (fun (h : ¬ σ 41 1 = 16) => ?_)
    · rw [if_pos h]
      refine Exists.intro (i) (And.intro ⟨rfl, by omega, by omega⟩ ?_)
      exact And.intro rfl rfl
    · rw [if_neg h]
      refine Exists.intro (i) (And.intro ⟨rfl, by omega, by omega⟩ ?_)
      exact And.intro rfl rfl
theorem ct_hasPart_3 {len : Nat} (hl : len ≤ 40) {σ : Sg} (e : σ 41 2 = nI len) (f n : Int32) : Ct mX1_hasPart [.ref 41, .int f, .int n] σ (Ex (some (.int (zb (decide (0 ≤ f.toInt ∧ 0 ≤ n.toInt ∧ n.toInt ≤ (len : Int) - f.toInt))))) σ) := by
  have et : (σ 41 2).toInt = len := by rw [e]; exact nI_toInt (by omega)
  refine Ct.of (by decide +kernel) zX1_hasPart (Nat.le_of_ble_eq_true rfl) (by decide) (fun X go => ?_)
  refine go.1 [] 60 _ _ _ _ ?_
  refine And.intro (fun (q : f < 0) => ?_) (fun (q : ¬ f < 0) => ?_)
  · rw [lt0] at q
    rw [dec_f (by omega)]
    exact And.intro (Or.inl rfl) (And.intro rfl rfl)
  · rw [lt0] at q
    refine And.intro (fun (r : n < 0) => ?_) (fun (r : ¬ n < 0) => ?_)
    · rw [lt0] at r
      rw [dec_f (by omega)]
      exact And.intro (Or.inl rfl) (And.intro rfl rfl)
    · rw [lt0] at r
      refine And.intro (fun (u : σ 41 2 < n) => ?_) (fun (u : ¬ σ 41 2 < n) => ?_)
      · rw [i_lt, et] at u
        rw [dec_f (by omega)]
        exact And.intro (Or.inl rfl) (And.intro rfl rfl)
      · rw [i_lt, et] at u
        refine And.intro (fun (w : σ 41 2 - n < f) => ?_) (fun (w : ¬ σ 41 2 - n < f) => ?_)
        · rw [i_lt, e, sub40 hl (by omega)] at w
          rw [dec_f (by omega)]
          exact And.intro (Or.inl rfl) (And.intro rfl rfl)
        · rw [i_lt, e, sub40 hl (by omega)] at w
          rw [dec_t (by omega)]
          exact And.intro (Or.inr rfl) (And.intro rfl rfl)
theorem ct_shF_no_3 {σ : Sg} (e : σ 41 1 = 0) : Ct mX4_sheetFinding [.ref 0, .int (nI 3)] σ (Ex (some (.int (fd 5))) (tel σ 5)) := by
  refine Ct.of (by decide +kernel) zX4_sheetFinding (Nat.le_of_ble_eq_true rfl) (by decide) (fun X go => ?_)
  refine go.1 [] 100 _ _ _ _ ?_
  refine cl (isSh (b := true) rfl _) ?_
  refine br_f (by decide) ?_
  refine Exists.intro (3) (And.intro ⟨rfl, by decide, by omega⟩ ?_)
  refine br_t e ?_
  refine cl (ct_fd (w := 5) (by decide) rfl _) ?_
  exact And.intro rfl rfl
theorem ct_shF_ok_3 {σ : Sg} (e : ¬ σ 41 1 = 0) : Ct mX4_sheetFinding [.ref 0, .int (nI 3)] σ (Ex (some (.int 0)) σ) := by
  refine Ct.of (by decide +kernel) zX4_sheetFinding (Nat.le_of_ble_eq_true rfl) (by decide) (fun X go => ?_)
  refine go.1 [] 100 _ _ _ _ ?_
  refine cl (isSh (b := true) rfl _) ?_
  refine br_f (by decide) ?_
  refine Exists.intro (3) (And.intro ⟨rfl, by decide, by omega⟩ ?_)
  refine br_f e ?_
  exact And.intro rfl rfl
