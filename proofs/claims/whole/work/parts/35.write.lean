/-! sheet, write -/
theorem up2_out {σ : Sg} {i j k : Nat} {x : Int32} (h : j ≠ i) : up2 σ i k x j = σ j := upr_out h
/-- a run of 0s -/
def zf (f : Nat → Int32) (a k : Nat) : Nat → Int32 := fun j => if a ≤ j ∧ j < a + k then 0 else f j
theorem zf_0 (f : Nat → Int32) (a : Nat) : zf f a 0 = f := by
  funext j
  unfold zf
  rw [if_neg (by omega)]
theorem zf_s (f : Nat → Int32) (a k : Nat) : upd (zf f a k) (a + k) 0 = zf f a (k + 1) := by
  funext j
  unfold upd zf
  by_cases h : j = a + k
  · rw [if_pos h, if_pos (by omega)]
  · rw [if_neg h]
    by_cases g : a ≤ j ∧ j < a + k
    · rw [if_pos g, if_pos (by omega)]
    · rw [if_neg g, if_neg (by omega)]
theorem ix40 (s k : Nat) : (40 : Int32) * nI s + nI k = nI (40 * s + k) := by rw [show (40 : Int32) = nI 40 from rfl, pk_mul, nI_add]
def okB (b : Int32) : Prop := b = 0 ∨ b = 8 ∨ b = 16 ∨ b = 32
theorem ctm_sheet {s m : Nat} (hs : s < 4) (hm : m ≤ 40) {b : Int32} (hb : okB b) (σ : Sg) : Ct mX5_sheet [.ref 45, .int (nI s), .int b, .int (nI m)] σ (Ex (some (.int (if b = 0 then 0 else nI m))) (upr (up2 (up2 σ 52 s b) 53 s (if b = 0 then 0 else nI m)) 54 (zf (σ 54) (40 * s) 40))) := by
  generalize hl : (if b = 0 then 0 else nI m) = len
  generalize hS : up2 (up2 σ 52 s b) 53 s len = S
  have eS : S 54 = σ 54 := by rw [← hS]; rfl
  have eS3 : S 53 s = len := by rw [← hS]; exact upd_eq (σ 53) s len
  rw [← eS]
  refine Ct.of (by decide +kernel) zX5_sheet (Nat.le_of_ble_eq_true rfl) (by decide) (fun X go => ?_)
  refine go.1 [36] 100 _ _ _ _ ?_
  have L : ∀ d k, k + d = 40 → X 85 [(0, .ref 45), (1, .int (nI s)), (2, .int b), (3, .int (nI m)), (4, .int (nI k))] [] (upr S 54 (zf (S 54) (40 * s) k)) := by
    intro d
    induction d with
    | zero =>
      intro k hk
      have hk : k = 40 := by omega
      subst hk
      refine go.1 [85] 40 _ _ _ _ ?_
      refine br_t (by decide) ?_
      refine Exists.intro (s) (And.intro ⟨rfl, by omega, by omega⟩ ?_)
      exact And.intro (congrArg (fun x => some (Value.int x)) eS3) rfl
    | succ d ih =>
      intro k hk
      have ihk := ih (k + 1) (by omega)
      have es : up2 (upr S 54 (zf (S 54) (40 * s) k)) 54 (40 * s + k) 0 = upr S 54 (zf (S 54) (40 * s) (k + 1)) := by
        show upr (upr S 54 (zf (S 54) (40 * s) k)) 54 (upd (upr S 54 (zf (S 54) (40 * s) k) 54) (40 * s + k) 0) = _
        rw [upr_in, upr_upr, zf_s]
      rw [nI_succ, ← es] at ihk
      refine go.1 [85] 40 _ _ _ _ ?_
      refine br_f (show ¬ nI 40 ≤ nI k from nI_ge (by omega) (by omega)) ?_
      refine Exists.intro (40 * s + k) (And.intro ⟨ix40 s k, by omega, by omega⟩ ?_)
      exact ihk
  have B : X 60 [(0, .ref 45), (1, .int (nI s)), (2, .int b), (3, .int (nI m))] [] σ := by
    have L0 := L 40 0 rfl
    rw [zf_0, upr_self, ← hS] at L0
    refine go.1 [85] 40 _ _ _ _ ?_
    refine Exists.intro (s) (And.intro ⟨rfl, by omega, by omega⟩ ?_)
    refine And.intro (fun (q : b = 0) => ?_) (fun (q : ¬ b = 0) => ?_)
    · refine Exists.intro (s) (And.intro ⟨rfl, by omega, by omega⟩ ?_)
      rw [← hl, if_pos q] at L0
      exact L0
    · refine Exists.intro (s) (And.intro ⟨rfl, by omega, by omega⟩ ?_)
      rw [← hl, if_neg q] at L0
      exact L0
  have B36 : X 36 [(0, .ref 45), (1, .int (nI s)), (2, .int b), (3, .int (nI m))] [] σ := by
    refine go.1 [60] 40 _ _ _ _ ?_
    refine br_t (nI_pos' (by omega)) ?_
    refine br_t (show nI m ≤ nI 40 from nI_le (by omega) (by omega)) ?_
    exact B
  refine cl (isOM (b := true) (by rw [nI_bI (by omega)]; exact decide_eq_true (by omega)) _) ?_
  refine br_f (by decide) ?_
  by_cases h0 : b = 0
  · refine br_t h0 ?_
    exact B36
  · refine br_f h0 ?_
    by_cases h8 : b = 8
    · refine br_t h8 ?_
      exact B36
    · refine br_f h8 ?_
      by_cases h16 : b = 16
      · refine br_t h16 ?_
        exact B36
      · refine br_f h16 ?_
        refine br_t (show b = 32 from by rcases hb with h | h | h | h <;> first | exact absurd h h0 | exact absurd h h8 | exact absurd h h16 | exact h) ?_
        exact B36

theorem ctc_sheet_0 {m : Nat} (hm : m ≤ 40) {b : Int32} (hb : okB b) (σ : Sg) : Ct mX4_sheet [.ref 0, .int (nI 0), .int b, .int (nI m)] σ (Ex (some (.int (if b = 0 then 0 else nI m))) (upr (up2 (up2 σ 35 1 b) 35 2 (if b = 0 then 0 else nI m)) 36 (mx z0f (σ 36) 40))) := by
  refine Ct.of (by decide +kernel) zX4_sheet (Nat.le_of_ble_eq_true rfl) (by decide) (fun X go => ?_)
  refine go.1 [58] 100 _ _ _ _ ?_
  have B : X 58 [(0, .ref 0), (1, .int (nI 0)), (2, .int b), (3, .int (nI m))] [] σ := by
    refine go.1 [] 40 _ _ _ _ ?_
    refine Exists.intro (0) (And.intro ⟨rfl, by decide, by omega⟩ ?_)
    refine And.intro (fun (q : b = 0) => ?_) (fun (q : ¬ b = 0) => ?_)
    · rw [if_pos q]
      refine cl (ct_shbegin_0 b 0 σ) ?_
      refine Exists.intro (0) (And.intro ⟨rfl, by decide, by omega⟩ ?_)
      exact And.intro rfl rfl
    · rw [if_neg q]
      refine cl (ct_shbegin_0 b (nI m) σ) ?_
      refine Exists.intro (0) (And.intro ⟨rfl, by decide, by omega⟩ ?_)
      exact And.intro rfl rfl
  refine cl (isSh (b := true) rfl _) ?_
  refine br_f (by decide) ?_
  by_cases h0 : b = 0
  · refine br_t h0 ?_
    refine br_t (nI_pos' (by omega)) ?_
    refine br_t (show nI m ≤ nI 40 from nI_le (by omega) (by omega)) ?_
    exact B
  · refine br_f h0 ?_
    by_cases h8 : b = 8
    · refine br_t h8 ?_
      refine br_t (nI_pos' (by omega)) ?_
      refine br_t (show nI m ≤ nI 40 from nI_le (by omega) (by omega)) ?_
      exact B
    · refine br_f h8 ?_
      by_cases h16 : b = 16
      · refine br_t h16 ?_
        refine br_t (nI_pos' (by omega)) ?_
        refine br_t (show nI m ≤ nI 40 from nI_le (by omega) (by omega)) ?_
        exact B
      · refine br_f h16 ?_
        refine br_t (show b = 32 from by rcases hb with h | h | h | h <;> first | exact absurd h h0 | exact absurd h h8 | exact absurd h h16 | exact h) ?_
        refine br_t (nI_pos' (by omega)) ?_
        refine br_t (show nI m ≤ nI 40 from nI_le (by omega) (by omega)) ?_
        exact B
theorem J_begin_0 {σ : Sg} (h : J σ) {b : Int32} (hb : okB b) {m : Nat} (hm : m ≤ 40) : J (upr (up2 (up2 (upr (up2 (up2 σ 35 1 b) 35 2 (if b = 0 then 0 else nI m)) 36 (mx z0f (σ 36) 40)) 52 0 b) 53 0 (if b = 0 then 0 else nI m)) 54 (zf (σ 54) (40 * 0) 40)) := by
  obtain ⟨l, hl, el⟩ : ∃ l, l ≤ 40 ∧ (if b = 0 then 0 else nI m) = nI l := by
    split
    · exact ⟨0, by decide, rfl⟩
    · exact ⟨m, hm, rfl⟩
  rw [el]
  refine J_sh1 h 0 (fun i h1 h2 h3 h4 h5 => ?_) (fun t ht q => ⟨?_, ?_⟩) (fun t ht q => ⟨?_, ?_⟩) (fun j hj => ?_) ⟨l, hl, rfl, rfl, rfl, hb, fun i hi => ?_⟩
  · rw [upr_out h4, up2_out h3, up2_out h2, upr_out (by omega), up2_out (by omega), up2_out (by omega)]
  · rw [upr_out (by omega), up2_out (by omega), up2_out (by omega), upr_out (by omega), up2_out (by omega), up2_out (by omega)]
  · rw [upr_out (by omega), up2_out (by omega), up2_out (by omega), upr_out (by omega), up2_out (by omega), up2_out (by omega)]
  · exact upd_ne (f := σ 52) q
  · exact upd_ne (f := σ 53) q
  · rw [upr_in]
    unfold zf
    rw [if_neg (by omega)]
  · show (if i < 40 then (0 : Int32) else _) = (if _ ∧ _ then 0 else _)
    rw [if_pos hi, if_pos (by omega)]

theorem ctc_sheet_1 {m : Nat} (hm : m ≤ 40) {b : Int32} (hb : okB b) (σ : Sg) : Ct mX4_sheet [.ref 0, .int (nI 1), .int b, .int (nI m)] σ (Ex (some (.int (if b = 0 then 0 else nI m))) (upr (up2 (up2 σ 37 1 b) 37 2 (if b = 0 then 0 else nI m)) 38 (mx z0f (σ 38) 40))) := by
  refine Ct.of (by decide +kernel) zX4_sheet (Nat.le_of_ble_eq_true rfl) (by decide) (fun X go => ?_)
  refine go.1 [58] 100 _ _ _ _ ?_
  have B : X 58 [(0, .ref 0), (1, .int (nI 1)), (2, .int b), (3, .int (nI m))] [] σ := by
    refine go.1 [] 40 _ _ _ _ ?_
    refine Exists.intro (1) (And.intro ⟨rfl, by decide, by omega⟩ ?_)
    refine And.intro (fun (q : b = 0) => ?_) (fun (q : ¬ b = 0) => ?_)
    · rw [if_pos q]
      refine cl (ct_shbegin_1 b 0 σ) ?_
      refine Exists.intro (1) (And.intro ⟨rfl, by decide, by omega⟩ ?_)
      exact And.intro rfl rfl
    · rw [if_neg q]
      refine cl (ct_shbegin_1 b (nI m) σ) ?_
      refine Exists.intro (1) (And.intro ⟨rfl, by decide, by omega⟩ ?_)
      exact And.intro rfl rfl
  refine cl (isSh (b := true) rfl _) ?_
  refine br_f (by decide) ?_
  by_cases h0 : b = 0
  · refine br_t h0 ?_
    refine br_t (nI_pos' (by omega)) ?_
    refine br_t (show nI m ≤ nI 40 from nI_le (by omega) (by omega)) ?_
    exact B
  · refine br_f h0 ?_
    by_cases h8 : b = 8
    · refine br_t h8 ?_
      refine br_t (nI_pos' (by omega)) ?_
      refine br_t (show nI m ≤ nI 40 from nI_le (by omega) (by omega)) ?_
      exact B
    · refine br_f h8 ?_
      by_cases h16 : b = 16
      · refine br_t h16 ?_
        refine br_t (nI_pos' (by omega)) ?_
        refine br_t (show nI m ≤ nI 40 from nI_le (by omega) (by omega)) ?_
        exact B
      · refine br_f h16 ?_
        refine br_t (show b = 32 from by rcases hb with h | h | h | h <;> first | exact absurd h h0 | exact absurd h h8 | exact absurd h h16 | exact h) ?_
        refine br_t (nI_pos' (by omega)) ?_
        refine br_t (show nI m ≤ nI 40 from nI_le (by omega) (by omega)) ?_
        exact B
theorem J_begin_1 {σ : Sg} (h : J σ) {b : Int32} (hb : okB b) {m : Nat} (hm : m ≤ 40) : J (upr (up2 (up2 (upr (up2 (up2 σ 37 1 b) 37 2 (if b = 0 then 0 else nI m)) 38 (mx z0f (σ 38) 40)) 52 1 b) 53 1 (if b = 0 then 0 else nI m)) 54 (zf (σ 54) (40 * 1) 40)) := by
  obtain ⟨l, hl, el⟩ : ∃ l, l ≤ 40 ∧ (if b = 0 then 0 else nI m) = nI l := by
    split
    · exact ⟨0, by decide, rfl⟩
    · exact ⟨m, hm, rfl⟩
  rw [el]
  refine J_sh1 h 1 (fun i h1 h2 h3 h4 h5 => ?_) (fun t ht q => ⟨?_, ?_⟩) (fun t ht q => ⟨?_, ?_⟩) (fun j hj => ?_) ⟨l, hl, rfl, rfl, rfl, hb, fun i hi => ?_⟩
  · rw [upr_out h4, up2_out h3, up2_out h2, upr_out (by omega), up2_out (by omega), up2_out (by omega)]
  · rw [upr_out (by omega), up2_out (by omega), up2_out (by omega), upr_out (by omega), up2_out (by omega), up2_out (by omega)]
  · rw [upr_out (by omega), up2_out (by omega), up2_out (by omega), upr_out (by omega), up2_out (by omega), up2_out (by omega)]
  · exact upd_ne (f := σ 52) q
  · exact upd_ne (f := σ 53) q
  · rw [upr_in]
    unfold zf
    rw [if_neg (by omega)]
  · show (if i < 40 then (0 : Int32) else _) = (if _ ∧ _ then 0 else _)
    rw [if_pos hi, if_pos (by omega)]

theorem ctc_sheet_2 {m : Nat} (hm : m ≤ 40) {b : Int32} (hb : okB b) (σ : Sg) : Ct mX4_sheet [.ref 0, .int (nI 2), .int b, .int (nI m)] σ (Ex (some (.int (if b = 0 then 0 else nI m))) (upr (up2 (up2 σ 39 1 b) 39 2 (if b = 0 then 0 else nI m)) 40 (mx z0f (σ 40) 40))) := by
  refine Ct.of (by decide +kernel) zX4_sheet (Nat.le_of_ble_eq_true rfl) (by decide) (fun X go => ?_)
  refine go.1 [58] 100 _ _ _ _ ?_
  have B : X 58 [(0, .ref 0), (1, .int (nI 2)), (2, .int b), (3, .int (nI m))] [] σ := by
    refine go.1 [] 40 _ _ _ _ ?_
    refine Exists.intro (2) (And.intro ⟨rfl, by decide, by omega⟩ ?_)
    refine And.intro (fun (q : b = 0) => ?_) (fun (q : ¬ b = 0) => ?_)
    · rw [if_pos q]
      refine cl (ct_shbegin_2 b 0 σ) ?_
      refine Exists.intro (2) (And.intro ⟨rfl, by decide, by omega⟩ ?_)
      exact And.intro rfl rfl
    · rw [if_neg q]
      refine cl (ct_shbegin_2 b (nI m) σ) ?_
      refine Exists.intro (2) (And.intro ⟨rfl, by decide, by omega⟩ ?_)
      exact And.intro rfl rfl
  refine cl (isSh (b := true) rfl _) ?_
  refine br_f (by decide) ?_
  by_cases h0 : b = 0
  · refine br_t h0 ?_
    refine br_t (nI_pos' (by omega)) ?_
    refine br_t (show nI m ≤ nI 40 from nI_le (by omega) (by omega)) ?_
    exact B
  · refine br_f h0 ?_
    by_cases h8 : b = 8
    · refine br_t h8 ?_
      refine br_t (nI_pos' (by omega)) ?_
      refine br_t (show nI m ≤ nI 40 from nI_le (by omega) (by omega)) ?_
      exact B
    · refine br_f h8 ?_
      by_cases h16 : b = 16
      · refine br_t h16 ?_
        refine br_t (nI_pos' (by omega)) ?_
        refine br_t (show nI m ≤ nI 40 from nI_le (by omega) (by omega)) ?_
        exact B
      · refine br_f h16 ?_
        refine br_t (show b = 32 from by rcases hb with h | h | h | h <;> first | exact absurd h h0 | exact absurd h h8 | exact absurd h h16 | exact h) ?_
        refine br_t (nI_pos' (by omega)) ?_
        refine br_t (show nI m ≤ nI 40 from nI_le (by omega) (by omega)) ?_
        exact B
theorem J_begin_2 {σ : Sg} (h : J σ) {b : Int32} (hb : okB b) {m : Nat} (hm : m ≤ 40) : J (upr (up2 (up2 (upr (up2 (up2 σ 39 1 b) 39 2 (if b = 0 then 0 else nI m)) 40 (mx z0f (σ 40) 40)) 52 2 b) 53 2 (if b = 0 then 0 else nI m)) 54 (zf (σ 54) (40 * 2) 40)) := by
  obtain ⟨l, hl, el⟩ : ∃ l, l ≤ 40 ∧ (if b = 0 then 0 else nI m) = nI l := by
    split
    · exact ⟨0, by decide, rfl⟩
    · exact ⟨m, hm, rfl⟩
  rw [el]
  refine J_sh1 h 2 (fun i h1 h2 h3 h4 h5 => ?_) (fun t ht q => ⟨?_, ?_⟩) (fun t ht q => ⟨?_, ?_⟩) (fun j hj => ?_) ⟨l, hl, rfl, rfl, rfl, hb, fun i hi => ?_⟩
  · rw [upr_out h4, up2_out h3, up2_out h2, upr_out (by omega), up2_out (by omega), up2_out (by omega)]
  · rw [upr_out (by omega), up2_out (by omega), up2_out (by omega), upr_out (by omega), up2_out (by omega), up2_out (by omega)]
  · rw [upr_out (by omega), up2_out (by omega), up2_out (by omega), upr_out (by omega), up2_out (by omega), up2_out (by omega)]
  · exact upd_ne (f := σ 52) q
  · exact upd_ne (f := σ 53) q
  · rw [upr_in]
    unfold zf
    rw [if_neg (by omega)]
  · show (if i < 40 then (0 : Int32) else _) = (if _ ∧ _ then 0 else _)
    rw [if_pos hi, if_pos (by omega)]

theorem ctc_sheet_3 {m : Nat} (hm : m ≤ 40) {b : Int32} (hb : okB b) (σ : Sg) : Ct mX4_sheet [.ref 0, .int (nI 3), .int b, .int (nI m)] σ (Ex (some (.int (if b = 0 then 0 else nI m))) (upr (up2 (up2 σ 41 1 b) 41 2 (if b = 0 then 0 else nI m)) 42 (mx z0f (σ 42) 40))) := by
  refine Ct.of (by decide +kernel) zX4_sheet (Nat.le_of_ble_eq_true rfl) (by decide) (fun X go => ?_)
  refine go.1 [58] 100 _ _ _ _ ?_
  have B : X 58 [(0, .ref 0), (1, .int (nI 3)), (2, .int b), (3, .int (nI m))] [] σ := by
    refine go.1 [] 40 _ _ _ _ ?_
    refine Exists.intro (3) (And.intro ⟨rfl, by decide, by omega⟩ ?_)
    refine And.intro (fun (q : b = 0) => ?_) (fun (q : ¬ b = 0) => ?_)
    · rw [if_pos q]
      refine cl (ct_shbegin_3 b 0 σ) ?_
      refine Exists.intro (3) (And.intro ⟨rfl, by decide, by omega⟩ ?_)
      exact And.intro rfl rfl
    · rw [if_neg q]
      refine cl (ct_shbegin_3 b (nI m) σ) ?_
      refine Exists.intro (3) (And.intro ⟨rfl, by decide, by omega⟩ ?_)
      exact And.intro rfl rfl
  refine cl (isSh (b := true) rfl _) ?_
  refine br_f (by decide) ?_
  by_cases h0 : b = 0
  · refine br_t h0 ?_
    refine br_t (nI_pos' (by omega)) ?_
    refine br_t (show nI m ≤ nI 40 from nI_le (by omega) (by omega)) ?_
    exact B
  · refine br_f h0 ?_
    by_cases h8 : b = 8
    · refine br_t h8 ?_
      refine br_t (nI_pos' (by omega)) ?_
      refine br_t (show nI m ≤ nI 40 from nI_le (by omega) (by omega)) ?_
      exact B
    · refine br_f h8 ?_
      by_cases h16 : b = 16
      · refine br_t h16 ?_
        refine br_t (nI_pos' (by omega)) ?_
        refine br_t (show nI m ≤ nI 40 from nI_le (by omega) (by omega)) ?_
        exact B
      · refine br_f h16 ?_
        refine br_t (show b = 32 from by rcases hb with h | h | h | h <;> first | exact absurd h h0 | exact absurd h h8 | exact absurd h h16 | exact h) ?_
        refine br_t (nI_pos' (by omega)) ?_
        refine br_t (show nI m ≤ nI 40 from nI_le (by omega) (by omega)) ?_
        exact B
theorem J_begin_3 {σ : Sg} (h : J σ) {b : Int32} (hb : okB b) {m : Nat} (hm : m ≤ 40) : J (upr (up2 (up2 (upr (up2 (up2 σ 41 1 b) 41 2 (if b = 0 then 0 else nI m)) 42 (mx z0f (σ 42) 40)) 52 3 b) 53 3 (if b = 0 then 0 else nI m)) 54 (zf (σ 54) (40 * 3) 40)) := by
  obtain ⟨l, hl, el⟩ : ∃ l, l ≤ 40 ∧ (if b = 0 then 0 else nI m) = nI l := by
    split
    · exact ⟨0, by decide, rfl⟩
    · exact ⟨m, hm, rfl⟩
  rw [el]
  refine J_sh1 h 3 (fun i h1 h2 h3 h4 h5 => ?_) (fun t ht q => ⟨?_, ?_⟩) (fun t ht q => ⟨?_, ?_⟩) (fun j hj => ?_) ⟨l, hl, rfl, rfl, rfl, hb, fun i hi => ?_⟩
  · rw [upr_out h4, up2_out h3, up2_out h2, upr_out (by omega), up2_out (by omega), up2_out (by omega)]
  · rw [upr_out (by omega), up2_out (by omega), up2_out (by omega), upr_out (by omega), up2_out (by omega), up2_out (by omega)]
  · rw [upr_out (by omega), up2_out (by omega), up2_out (by omega), upr_out (by omega), up2_out (by omega), up2_out (by omega)]
  · exact upd_ne (f := σ 52) q
  · exact upd_ne (f := σ 53) q
  · rw [upr_in]
    unfold zf
    rw [if_neg (by omega)]
  · show (if i < 40 then (0 : Int32) else _) = (if _ ∧ _ then 0 else _)
    rw [if_pos hi, if_pos (by omega)]

theorem P_sheet {σ : Sg} (h : J σ) (s b nv : Int32) : Pair mX4_sheet mX5_sheet [.int s, .int b, .int nv] σ := by
  cases hs : bI s 0 3 with
  | false =>
      refine Pair_fd h 0 ?_ ?_
      · refine Ct.of (by decide +kernel) zX4_sheet (Nat.le_of_ble_eq_true rfl) (by decide) (fun X go => ?_)
        refine go.1 [] 100 _ _ _ _ ?_
        refine cl (isSh hs _) ?_
        refine br_t (by decide) ?_
        refine cl (ct_fd (w := 0) (by decide) rfl _) ?_
        exact And.intro rfl rfl
      · refine Ct.of (by decide +kernel) zX5_sheet (Nat.le_of_ble_eq_true rfl) (by decide) (fun X go => ?_)
        refine go.1 [] 100 _ _ _ _ ?_
        refine cl (isOM hs _) ?_
        refine br_t (by decide) ?_
        refine cl (ct_finds (w := 0) (by decide) fd0 _) ?_
        exact And.intro rfl rfl
  | true =>
    by_cases hb : okB b
    · by_cases hn : nv < 0
      · refine Pair_fd h 6 ?_ ?_
        · refine Ct.of (by decide +kernel) zX4_sheet (Nat.le_of_ble_eq_true rfl) (by decide) (fun X go => ?_)
          refine go.1 [35] 100 _ _ _ _ ?_
          have B : X 35 [(0, .ref 0), (1, .int s), (2, .int b), (3, .int nv)] [] σ := by
            refine go.1 [] 40 _ _ _ _ ?_
            refine br_f (fun q : 0 ≤ nv => Int32.not_lt.mpr q hn) ?_
            refine cl (ct_fd (w := 6) (by decide) rfl _) ?_
            exact And.intro rfl rfl
          refine cl (isSh hs _) ?_
          refine br_f (by decide) ?_
          rcases hb with q | q | q | q <;> subst q <;> (repeat (first | refine br_t (by decide) ?_ | refine br_f (by decide) ?_)) <;> exact B
        · refine Ct.of (by decide +kernel) zX5_sheet (Nat.le_of_ble_eq_true rfl) (by decide) (fun X go => ?_)
          refine go.1 [36] 100 _ _ _ _ ?_
          have B : X 36 [(0, .ref 45), (1, .int s), (2, .int b), (3, .int nv)] [] (tel σ 6) := by
            refine go.1 [] 40 _ _ _ _ ?_
            refine br_f (fun q : 0 ≤ nv => Int32.not_lt.mpr q hn) ?_
            refine cl (ct_finds (w := 6) (by decide) fd6 _) ?_
            exact And.intro rfl rfl
          refine cl (isOM hs _) ?_
          refine br_f (by decide) ?_
          rcases hb with q | q | q | q <;> subst q <;> (repeat (first | refine br_t (by decide) ?_ | refine br_f (by decide) ?_)) <;> exact B
      · by_cases hm : nv ≤ 40
        · obtain ⟨m, hm40, rfl⟩ : ∃ m : Nat, m ≤ 40 ∧ nv = nI m := nI_of2 (M := 40) rfl hn hm
          obtain ⟨t, -, ht, rfl⟩ := bI_n hs (by decide) (by decide)
          have ht : t = 0 ∨ t = 1 ∨ t = 2 ∨ t = 3 := by omega
          rcases ht with rfl | rfl | rfl | rfl
          · exact ⟨_, _, _, ctc_sheet_0 hm40 hb σ, ctm_sheet (s := 0) (by decide) hm40 hb _, J_begin_0 h hb hm40⟩
          · exact ⟨_, _, _, ctc_sheet_1 hm40 hb σ, ctm_sheet (s := 1) (by decide) hm40 hb _, J_begin_1 h hb hm40⟩
          · exact ⟨_, _, _, ctc_sheet_2 hm40 hb σ, ctm_sheet (s := 2) (by decide) hm40 hb _, J_begin_2 h hb hm40⟩
          · exact ⟨_, _, _, ctc_sheet_3 hm40 hb σ, ctm_sheet (s := 3) (by decide) hm40 hb _, J_begin_3 h hb hm40⟩
        · refine Pair_fd h 0 ?_ ?_
          · refine Ct.of (by decide +kernel) zX4_sheet (Nat.le_of_ble_eq_true rfl) (by decide) (fun X go => ?_)
            refine go.1 [35] 100 _ _ _ _ ?_
            have B : X 35 [(0, .ref 0), (1, .int s), (2, .int b), (3, .int nv)] [] σ := by
              refine go.1 [] 40 _ _ _ _ ?_
              refine br_t (Int32.not_lt.mp hn) ?_
              refine br_f hm ?_
              refine cl (ct_fd (w := 0) (by decide) rfl _) ?_
              exact And.intro rfl rfl
            refine cl (isSh hs _) ?_
            refine br_f (by decide) ?_
            rcases hb with q | q | q | q <;> subst q <;> (repeat (first | refine br_t (by decide) ?_ | refine br_f (by decide) ?_)) <;> exact B
          · refine Ct.of (by decide +kernel) zX5_sheet (Nat.le_of_ble_eq_true rfl) (by decide) (fun X go => ?_)
            refine go.1 [36] 100 _ _ _ _ ?_
            have B : X 36 [(0, .ref 45), (1, .int s), (2, .int b), (3, .int nv)] [] (tel σ 0) := by
              refine go.1 [] 40 _ _ _ _ ?_
              refine br_t (Int32.not_lt.mp hn) ?_
              refine br_f hm ?_
              refine cl (ct_finds (w := 0) (by decide) fd0 _) ?_
              exact And.intro rfl rfl
            refine cl (isOM hs _) ?_
            refine br_f (by decide) ?_
            rcases hb with q | q | q | q <;> subst q <;> (repeat (first | refine br_t (by decide) ?_ | refine br_f (by decide) ?_)) <;> exact B
    · have n0 : ¬ b = 0 := fun q => hb (Or.inl q)
      have n8 : ¬ b = 8 := fun q => hb (Or.inr (Or.inl q))
      have n16 : ¬ b = 16 := fun q => hb (Or.inr (Or.inr (Or.inl q)))
      have n32 : ¬ b = 32 := fun q => hb (Or.inr (Or.inr (Or.inr q)))
      refine Pair_fd h 0 ?_ ?_
      · refine Ct.of (by decide +kernel) zX4_sheet (Nat.le_of_ble_eq_true rfl) (by decide) (fun X go => ?_)
        refine go.1 [] 100 _ _ _ _ ?_
        refine cl (isSh hs _) ?_
        refine br_f (by decide) ?_
        refine br_f n0 ?_
        refine br_f n8 ?_
        refine br_f n16 ?_
        refine br_f n32 ?_
        refine cl (ct_fd (w := 0) (by decide) rfl _) ?_
        exact And.intro rfl rfl
      · refine Ct.of (by decide +kernel) zX5_sheet (Nat.le_of_ble_eq_true rfl) (by decide) (fun X go => ?_)
        refine go.1 [] 100 _ _ _ _ ?_
        refine cl (isOM hs _) ?_
        refine br_f (by decide) ?_
        refine br_f n0 ?_
        refine br_f n8 ?_
        refine br_f n16 ?_
        refine br_f n32 ?_
        refine cl (ct_finds (w := 0) (by decide) fd0 _) ?_
        exact And.intro rfl rfl

theorem ctm_write_bad {s : Nat} (hs : s < 4) {σ : Sg} (e1 : ¬ σ 52 s = 0) {len : Nat} (hl : len ≤ 40) (e2 : σ 53 s = nI len) {i v : Int32} (hi : bI i 0 ((len : Int) - 1) = false) : Ct mX5_write [.ref 45, .int (nI s), .int i, .int v] σ (Ex (some (.int (fd 0))) (telM σ 0)) := by
  have c := ct_inI i 0 (σ 53 s - 1) (la := 0) (lb := (σ 53 s - 1).toInt64) (by decide) rfl σ
  rw [show (σ 53 s - 1).toInt = (len : Int) - 1 by rw [e2]; exact pk_sub_toInt (a := len) (b := 1) (by omega) (by decide), show (0 : Int32).toInt = 0 from rfl, hi] at c
  refine Ct.of (by decide +kernel) zX5_write (Nat.le_of_ble_eq_true rfl) (by decide) (fun X go => ?_)
  refine go.1 [] 100 _ _ _ _ ?_
  refine cl (ct_wrong_ok hs e1) ?_
  refine br_t (by decide) ?_
  refine Exists.intro (s) (And.intro ⟨rfl, by omega, by omega⟩ ?_)
  refine cl (c) ?_
  refine br_t (by decide) ?_
  refine cl (ct_finds (w := 0) (by decide) fd0 _) ?_
  exact And.intro rfl rfl
theorem ctm_write {s a : Nat} (hs : s < 4) {σ : Sg} (e1 : ¬ σ 52 s = 0) {len : Nat} (hl : len ≤ 40) (e2 : σ 53 s = nI len) (ha : a < len) (v : Int32) : Ct mX5_write [.ref 45, .int (nI s), .int (nI a), .int v] σ (Ex (some (.int 1)) (up2 σ 54 (40 * s + a) (nrw (σ 52 s) v))) := by
  have c := ct_inI (nI a) 0 (σ 53 s - 1) (la := 0) (lb := (σ 53 s - 1).toInt64) (by decide) rfl σ
  rw [show (σ 53 s - 1).toInt = (len : Int) - 1 by rw [e2]; exact pk_sub_toInt (a := len) (b := 1) (by omega) (by decide), show (0 : Int32).toInt = 0 from rfl, show bI (nI a) 0 ((len : Int) - 1) = true by rw [nI_bI (by omega)]; exact decide_eq_true (by omega)] at c
  refine Ct.of (by decide +kernel) zX5_write (Nat.le_of_ble_eq_true rfl) (by decide) (fun X go => ?_)
  refine go.1 [] 100 _ _ _ _ ?_
  refine cl (ct_wrong_ok hs e1) ?_
  refine br_t (by decide) ?_
  refine Exists.intro (s) (And.intro ⟨rfl, by omega, by omega⟩ ?_)
  refine cl (c) ?_
  refine br_f (by decide) ?_
  refine Exists.intro (s) (And.intro ⟨rfl, by omega, by omega⟩ ?_)
  refine cl (ct_nrw (σ 52 s) v σ) ?_
  refine Exists.intro (40 * s + a) (And.intro ⟨ix40 s a, by omega, by omega⟩ ?_)
  exact And.intro rfl rfl

theorem P_write_0 {σ : Sg} (h : J σ) (i v : Int32) : Pair mX4_write mX5_write [.int (nI 0), .int i, .int v] σ := by
  obtain ⟨len, hl, e2, e3, e1, eb, en⟩ := J_sh h 0 (by decide)
  have e2 : σ 35 2 = nI len := e2
  have e1 : σ 35 1 = σ 52 0 := e1
  by_cases h0 : σ 52 0 = 0
  · refine Pair_fd h 5 ?_ ?_
    · refine Ct.of (by decide +kernel) zX4_write (Nat.le_of_ble_eq_true rfl) (by decide) (fun X go => ?_)
      refine go.1 [] 100 _ _ _ _ ?_
      refine cl (ct_shF_no_0 (σ := σ) (e1.trans h0)) ?_
      refine br_f (by decide) ?_
      exact And.intro rfl rfl
    · refine Ct.of (by decide +kernel) zX5_write (Nat.le_of_ble_eq_true rfl) (by decide) (fun X go => ?_)
      refine go.1 [] 100 _ _ _ _ ?_
      refine cl (ct_wrong_no (s := 0) (σ := tel σ 5) (by decide) h0) ?_
      refine br_f (by decide) ?_
      refine cl (ct_finds (w := 5) (by decide) fd5 _) ?_
      exact And.intro rfl rfl
  · cases hi : bI i 0 ((len : Int) - 1) with
    | false =>
      have hi' := bI_f.mp hi
      refine Pair_fd h 0 ?_ (ctm_write_bad (s := 0) (σ := tel σ 0) (by decide) h0 hl e3 hi)
      refine Ct.of (by decide +kernel) zX4_write (Nat.le_of_ble_eq_true rfl) (by decide) (fun X go => ?_)
      refine go.1 [] 100 _ _ _ _ ?_
      refine cl (ct_shF_ok_0 (σ := σ) (fun q => h0 (e1.symm.trans q))) ?_
      refine br_t (by decide) ?_
      refine And.intro (fun (q : i < 0) => ?_) (fun (q : ¬ i < 0) => ?_)
      · refine cl (ct_fd (w := 0) (by decide) rfl _) ?_
        exact And.intro rfl rfl
      · refine Exists.intro (0) (And.intro ⟨rfl, by decide, by omega⟩ ?_)
        refine br_f (show ¬ i < σ 35 2 from fun g => ?_) ?_
        · rw [i_lt, e2, nI_toInt (by omega)] at g
          rw [lt0] at q
          exact hi' ⟨by omega, by omega⟩
        · refine cl (ct_fd (w := 0) (by decide) rfl _) ?_
          exact And.intro rfl rfl
    | true =>
      obtain ⟨a, -, ha, rfl⟩ := bI_n hi (by decide) (by omega)
      have ha : a < len := by omega
      refine ⟨1, up2 σ 36 a (nrw (σ 35 1) v), up2 (up2 σ 36 a (nrw (σ 35 1) v)) 54 (40 * 0 + a) (nrw (σ 52 0) v), ?_, ctm_write (s := 0) (σ := up2 σ 36 a (nrw (σ 35 1) v)) (by decide) h0 hl e3 ha v, ?_⟩
      · refine Ct.of (by decide +kernel) zX4_write (Nat.le_of_ble_eq_true rfl) (by decide) (fun X go => ?_)
        refine go.1 [] 100 _ _ _ _ ?_
        refine cl (ct_shF_ok_0 (σ := σ) (fun q => h0 (e1.symm.trans q))) ?_
        refine br_t (by decide) ?_
        refine br_f (nI_pos (by omega)) ?_
        refine Exists.intro (0) (And.intro ⟨rfl, by decide, by omega⟩ ?_)
        refine br_t (show nI a < σ 35 2 by rw [e2]; exact nI_lt ha (by omega)) ?_
        refine Exists.intro (0) (And.intro ⟨rfl, by decide, by omega⟩ ?_)
        refine cl (ct_put_0 (show a < 40 by omega) v σ) ?_
        exact And.intro rfl rfl
      · refine J_sh1 h 0 (fun i h1 h2 h3 h4 h5 => ?_) (fun t ht q => ⟨?_, ?_⟩) (fun t ht q => ⟨rfl, rfl⟩) (fun j hj => ?_) ⟨len, hl, e2, e3, e1, eb, fun j hj => ?_⟩
        · rw [up2_out h4, up2_out (by omega)]
        · rw [up2_out (by omega), up2_out (by omega)]
        · rw [up2_out (by omega), up2_out (by omega)]
        · exact upd_ne (f := σ 54) (by omega)
        · show upd (σ 36) a (nrw (σ 35 1) v) j = upd (σ 54) (40 * 0 + a) (nrw (σ 52 0) v) (40 * 0 + j)
          rw [e1]
          by_cases q : j = a
          · rw [q, upd_eq, upd_eq]
          · rw [upd_ne q, upd_ne (by omega)]
            exact en j hj

theorem P_write_1 {σ : Sg} (h : J σ) (i v : Int32) : Pair mX4_write mX5_write [.int (nI 1), .int i, .int v] σ := by
  obtain ⟨len, hl, e2, e3, e1, eb, en⟩ := J_sh h 1 (by decide)
  have e2 : σ 37 2 = nI len := e2
  have e1 : σ 37 1 = σ 52 1 := e1
  by_cases h0 : σ 52 1 = 0
  · refine Pair_fd h 5 ?_ ?_
    · refine Ct.of (by decide +kernel) zX4_write (Nat.le_of_ble_eq_true rfl) (by decide) (fun X go => ?_)
      refine go.1 [] 100 _ _ _ _ ?_
      refine cl (ct_shF_no_1 (σ := σ) (e1.trans h0)) ?_
      refine br_f (by decide) ?_
      exact And.intro rfl rfl
    · refine Ct.of (by decide +kernel) zX5_write (Nat.le_of_ble_eq_true rfl) (by decide) (fun X go => ?_)
      refine go.1 [] 100 _ _ _ _ ?_
      refine cl (ct_wrong_no (s := 1) (σ := tel σ 5) (by decide) h0) ?_
      refine br_f (by decide) ?_
      refine cl (ct_finds (w := 5) (by decide) fd5 _) ?_
      exact And.intro rfl rfl
  · cases hi : bI i 0 ((len : Int) - 1) with
    | false =>
      have hi' := bI_f.mp hi
      refine Pair_fd h 0 ?_ (ctm_write_bad (s := 1) (σ := tel σ 0) (by decide) h0 hl e3 hi)
      refine Ct.of (by decide +kernel) zX4_write (Nat.le_of_ble_eq_true rfl) (by decide) (fun X go => ?_)
      refine go.1 [] 100 _ _ _ _ ?_
      refine cl (ct_shF_ok_1 (σ := σ) (fun q => h0 (e1.symm.trans q))) ?_
      refine br_t (by decide) ?_
      refine And.intro (fun (q : i < 0) => ?_) (fun (q : ¬ i < 0) => ?_)
      · refine cl (ct_fd (w := 0) (by decide) rfl _) ?_
        exact And.intro rfl rfl
      · refine Exists.intro (1) (And.intro ⟨rfl, by decide, by omega⟩ ?_)
        refine br_f (show ¬ i < σ 37 2 from fun g => ?_) ?_
        · rw [i_lt, e2, nI_toInt (by omega)] at g
          rw [lt0] at q
          exact hi' ⟨by omega, by omega⟩
        · refine cl (ct_fd (w := 0) (by decide) rfl _) ?_
          exact And.intro rfl rfl
    | true =>
      obtain ⟨a, -, ha, rfl⟩ := bI_n hi (by decide) (by omega)
      have ha : a < len := by omega
      refine ⟨1, up2 σ 38 a (nrw (σ 37 1) v), up2 (up2 σ 38 a (nrw (σ 37 1) v)) 54 (40 * 1 + a) (nrw (σ 52 1) v), ?_, ctm_write (s := 1) (σ := up2 σ 38 a (nrw (σ 37 1) v)) (by decide) h0 hl e3 ha v, ?_⟩
      · refine Ct.of (by decide +kernel) zX4_write (Nat.le_of_ble_eq_true rfl) (by decide) (fun X go => ?_)
        refine go.1 [] 100 _ _ _ _ ?_
        refine cl (ct_shF_ok_1 (σ := σ) (fun q => h0 (e1.symm.trans q))) ?_
        refine br_t (by decide) ?_
        refine br_f (nI_pos (by omega)) ?_
        refine Exists.intro (1) (And.intro ⟨rfl, by decide, by omega⟩ ?_)
        refine br_t (show nI a < σ 37 2 by rw [e2]; exact nI_lt ha (by omega)) ?_
        refine Exists.intro (1) (And.intro ⟨rfl, by decide, by omega⟩ ?_)
        refine cl (ct_put_1 (show a < 40 by omega) v σ) ?_
        exact And.intro rfl rfl
      · refine J_sh1 h 1 (fun i h1 h2 h3 h4 h5 => ?_) (fun t ht q => ⟨?_, ?_⟩) (fun t ht q => ⟨rfl, rfl⟩) (fun j hj => ?_) ⟨len, hl, e2, e3, e1, eb, fun j hj => ?_⟩
        · rw [up2_out h4, up2_out (by omega)]
        · rw [up2_out (by omega), up2_out (by omega)]
        · rw [up2_out (by omega), up2_out (by omega)]
        · exact upd_ne (f := σ 54) (by omega)
        · show upd (σ 38) a (nrw (σ 37 1) v) j = upd (σ 54) (40 * 1 + a) (nrw (σ 52 1) v) (40 * 1 + j)
          rw [e1]
          by_cases q : j = a
          · rw [q, upd_eq, upd_eq]
          · rw [upd_ne q, upd_ne (by omega)]
            exact en j hj

theorem P_write_2 {σ : Sg} (h : J σ) (i v : Int32) : Pair mX4_write mX5_write [.int (nI 2), .int i, .int v] σ := by
  obtain ⟨len, hl, e2, e3, e1, eb, en⟩ := J_sh h 2 (by decide)
  have e2 : σ 39 2 = nI len := e2
  have e1 : σ 39 1 = σ 52 2 := e1
  by_cases h0 : σ 52 2 = 0
  · refine Pair_fd h 5 ?_ ?_
    · refine Ct.of (by decide +kernel) zX4_write (Nat.le_of_ble_eq_true rfl) (by decide) (fun X go => ?_)
      refine go.1 [] 100 _ _ _ _ ?_
      refine cl (ct_shF_no_2 (σ := σ) (e1.trans h0)) ?_
      refine br_f (by decide) ?_
      exact And.intro rfl rfl
    · refine Ct.of (by decide +kernel) zX5_write (Nat.le_of_ble_eq_true rfl) (by decide) (fun X go => ?_)
      refine go.1 [] 100 _ _ _ _ ?_
      refine cl (ct_wrong_no (s := 2) (σ := tel σ 5) (by decide) h0) ?_
      refine br_f (by decide) ?_
      refine cl (ct_finds (w := 5) (by decide) fd5 _) ?_
      exact And.intro rfl rfl
  · cases hi : bI i 0 ((len : Int) - 1) with
    | false =>
      have hi' := bI_f.mp hi
      refine Pair_fd h 0 ?_ (ctm_write_bad (s := 2) (σ := tel σ 0) (by decide) h0 hl e3 hi)
      refine Ct.of (by decide +kernel) zX4_write (Nat.le_of_ble_eq_true rfl) (by decide) (fun X go => ?_)
      refine go.1 [] 100 _ _ _ _ ?_
      refine cl (ct_shF_ok_2 (σ := σ) (fun q => h0 (e1.symm.trans q))) ?_
      refine br_t (by decide) ?_
      refine And.intro (fun (q : i < 0) => ?_) (fun (q : ¬ i < 0) => ?_)
      · refine cl (ct_fd (w := 0) (by decide) rfl _) ?_
        exact And.intro rfl rfl
      · refine Exists.intro (2) (And.intro ⟨rfl, by decide, by omega⟩ ?_)
        refine br_f (show ¬ i < σ 39 2 from fun g => ?_) ?_
        · rw [i_lt, e2, nI_toInt (by omega)] at g
          rw [lt0] at q
          exact hi' ⟨by omega, by omega⟩
        · refine cl (ct_fd (w := 0) (by decide) rfl _) ?_
          exact And.intro rfl rfl
    | true =>
      obtain ⟨a, -, ha, rfl⟩ := bI_n hi (by decide) (by omega)
      have ha : a < len := by omega
      refine ⟨1, up2 σ 40 a (nrw (σ 39 1) v), up2 (up2 σ 40 a (nrw (σ 39 1) v)) 54 (40 * 2 + a) (nrw (σ 52 2) v), ?_, ctm_write (s := 2) (σ := up2 σ 40 a (nrw (σ 39 1) v)) (by decide) h0 hl e3 ha v, ?_⟩
      · refine Ct.of (by decide +kernel) zX4_write (Nat.le_of_ble_eq_true rfl) (by decide) (fun X go => ?_)
        refine go.1 [] 100 _ _ _ _ ?_
        refine cl (ct_shF_ok_2 (σ := σ) (fun q => h0 (e1.symm.trans q))) ?_
        refine br_t (by decide) ?_
        refine br_f (nI_pos (by omega)) ?_
        refine Exists.intro (2) (And.intro ⟨rfl, by decide, by omega⟩ ?_)
        refine br_t (show nI a < σ 39 2 by rw [e2]; exact nI_lt ha (by omega)) ?_
        refine Exists.intro (2) (And.intro ⟨rfl, by decide, by omega⟩ ?_)
        refine cl (ct_put_2 (show a < 40 by omega) v σ) ?_
        exact And.intro rfl rfl
      · refine J_sh1 h 2 (fun i h1 h2 h3 h4 h5 => ?_) (fun t ht q => ⟨?_, ?_⟩) (fun t ht q => ⟨rfl, rfl⟩) (fun j hj => ?_) ⟨len, hl, e2, e3, e1, eb, fun j hj => ?_⟩
        · rw [up2_out h4, up2_out (by omega)]
        · rw [up2_out (by omega), up2_out (by omega)]
        · rw [up2_out (by omega), up2_out (by omega)]
        · exact upd_ne (f := σ 54) (by omega)
        · show upd (σ 40) a (nrw (σ 39 1) v) j = upd (σ 54) (40 * 2 + a) (nrw (σ 52 2) v) (40 * 2 + j)
          rw [e1]
          by_cases q : j = a
          · rw [q, upd_eq, upd_eq]
          · rw [upd_ne q, upd_ne (by omega)]
            exact en j hj

theorem P_write_3 {σ : Sg} (h : J σ) (i v : Int32) : Pair mX4_write mX5_write [.int (nI 3), .int i, .int v] σ := by
  obtain ⟨len, hl, e2, e3, e1, eb, en⟩ := J_sh h 3 (by decide)
  have e2 : σ 41 2 = nI len := e2
  have e1 : σ 41 1 = σ 52 3 := e1
  by_cases h0 : σ 52 3 = 0
  · refine Pair_fd h 5 ?_ ?_
    · refine Ct.of (by decide +kernel) zX4_write (Nat.le_of_ble_eq_true rfl) (by decide) (fun X go => ?_)
      refine go.1 [] 100 _ _ _ _ ?_
      refine cl (ct_shF_no_3 (σ := σ) (e1.trans h0)) ?_
      refine br_f (by decide) ?_
      exact And.intro rfl rfl
    · refine Ct.of (by decide +kernel) zX5_write (Nat.le_of_ble_eq_true rfl) (by decide) (fun X go => ?_)
      refine go.1 [] 100 _ _ _ _ ?_
      refine cl (ct_wrong_no (s := 3) (σ := tel σ 5) (by decide) h0) ?_
      refine br_f (by decide) ?_
      refine cl (ct_finds (w := 5) (by decide) fd5 _) ?_
      exact And.intro rfl rfl
  · cases hi : bI i 0 ((len : Int) - 1) with
    | false =>
      have hi' := bI_f.mp hi
      refine Pair_fd h 0 ?_ (ctm_write_bad (s := 3) (σ := tel σ 0) (by decide) h0 hl e3 hi)
      refine Ct.of (by decide +kernel) zX4_write (Nat.le_of_ble_eq_true rfl) (by decide) (fun X go => ?_)
      refine go.1 [] 100 _ _ _ _ ?_
      refine cl (ct_shF_ok_3 (σ := σ) (fun q => h0 (e1.symm.trans q))) ?_
      refine br_t (by decide) ?_
      refine And.intro (fun (q : i < 0) => ?_) (fun (q : ¬ i < 0) => ?_)
      · refine cl (ct_fd (w := 0) (by decide) rfl _) ?_
        exact And.intro rfl rfl
      · refine Exists.intro (3) (And.intro ⟨rfl, by decide, by omega⟩ ?_)
        refine br_f (show ¬ i < σ 41 2 from fun g => ?_) ?_
        · rw [i_lt, e2, nI_toInt (by omega)] at g
          rw [lt0] at q
          exact hi' ⟨by omega, by omega⟩
        · refine cl (ct_fd (w := 0) (by decide) rfl _) ?_
          exact And.intro rfl rfl
    | true =>
      obtain ⟨a, -, ha, rfl⟩ := bI_n hi (by decide) (by omega)
      have ha : a < len := by omega
      refine ⟨1, up2 σ 42 a (nrw (σ 41 1) v), up2 (up2 σ 42 a (nrw (σ 41 1) v)) 54 (40 * 3 + a) (nrw (σ 52 3) v), ?_, ctm_write (s := 3) (σ := up2 σ 42 a (nrw (σ 41 1) v)) (by decide) h0 hl e3 ha v, ?_⟩
      · refine Ct.of (by decide +kernel) zX4_write (Nat.le_of_ble_eq_true rfl) (by decide) (fun X go => ?_)
        refine go.1 [] 100 _ _ _ _ ?_
        refine cl (ct_shF_ok_3 (σ := σ) (fun q => h0 (e1.symm.trans q))) ?_
        refine br_t (by decide) ?_
        refine br_f (nI_pos (by omega)) ?_
        refine Exists.intro (3) (And.intro ⟨rfl, by decide, by omega⟩ ?_)
        refine br_t (show nI a < σ 41 2 by rw [e2]; exact nI_lt ha (by omega)) ?_
        refine Exists.intro (3) (And.intro ⟨rfl, by decide, by omega⟩ ?_)
        refine cl (ct_put_3 (show a < 40 by omega) v σ) ?_
        exact And.intro rfl rfl
      · refine J_sh1 h 3 (fun i h1 h2 h3 h4 h5 => ?_) (fun t ht q => ⟨?_, ?_⟩) (fun t ht q => ⟨rfl, rfl⟩) (fun j hj => ?_) ⟨len, hl, e2, e3, e1, eb, fun j hj => ?_⟩
        · rw [up2_out h4, up2_out (by omega)]
        · rw [up2_out (by omega), up2_out (by omega)]
        · rw [up2_out (by omega), up2_out (by omega)]
        · exact upd_ne (f := σ 54) (by omega)
        · show upd (σ 42) a (nrw (σ 41 1) v) j = upd (σ 54) (40 * 3 + a) (nrw (σ 52 3) v) (40 * 3 + j)
          rw [e1]
          by_cases q : j = a
          · rw [q, upd_eq, upd_eq]
          · rw [upd_ne q, upd_ne (by omega)]
            exact en j hj

theorem P_write {σ : Sg} (h : J σ) (s i v : Int32) : Pair mX4_write mX5_write [.int s, .int i, .int v] σ := by
  cases hs : bI s 0 3 with
  | false =>
      refine Pair_fd h 0 ?_ ?_
      · refine Ct.of (by decide +kernel) zX4_write (Nat.le_of_ble_eq_true rfl) (by decide) (fun X go => ?_)
        refine go.1 [] 100 _ _ _ _ ?_
        refine cl (ct_shF_bad hs σ) ?_
        refine br_f (by decide) ?_
        exact And.intro rfl rfl
      · refine Ct.of (by decide +kernel) zX5_write (Nat.le_of_ble_eq_true rfl) (by decide) (fun X go => ?_)
        refine go.1 [] 100 _ _ _ _ ?_
        refine cl (ct_wrong_bad hs (tel σ 0)) ?_
        refine br_f (by decide) ?_
        refine cl (ct_finds (w := 0) (by decide) fd0 _) ?_
        exact And.intro rfl rfl
  | true =>
    obtain ⟨t, -, ht, rfl⟩ := bI_n hs (by decide) (by decide)
    have ht : t = 0 ∨ t = 1 ∨ t = 2 ∨ t = 3 := by omega
    rcases ht with rfl | rfl | rfl | rfl
    · exact P_write_0 h i v
    · exact P_write_1 h i v
    · exact P_write_2 h i v
    · exact P_write_3 h i v
