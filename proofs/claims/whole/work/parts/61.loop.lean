/-! THE LAW'S LOOP at the abstract machine: each case -/
def GoL (L : Nat) (xs : Nat → Int32) (rt : Rt) (X : Kt) : Prop := ∀ cd : Cd, (∀ q ∈ cd, SndG (some (L, xs)) RL cL_law 4 lawRet room_1 q.1 q.2) → Go cd rt X
abbrev lvL (k : Nat) : Lcs := [(0, .ref 58), (1, .ref 0), (2, .ref 45), (3, .int (nI (6 * k)))]
theorem law_le {L k : Nat} (hL : L ≤ 3072) (hkL : k ≤ 1000) (h : ¬ nI L - 6 < nI (6 * k)) : 6 * k + 6 ≤ L := by
  have e1 : (nI L - 6).toInt = (L : Int) - 6 := by
    unfold nI
    rw [Int32.toInt_sub, Int32.toInt_ofNat_of_lt (by omega)]
    show ((L : Int) - 6).bmod (2 ^ 32) = _
    rw [Int.bmod_eq_of_le (by omega) (by omega)]
  have e2 : (nI (6 * k)).toInt = ((6 * k : Nat) : Int) := by
    unfold nI
    exact Int32.toInt_ofNat_of_lt (by omega)
  rw [Int32.lt_iff_toInt_lt, e1, e2] at h
  omega
theorem case_0 {L : Nat} {xs : Nat → Int32} {rt : Rt} {X : Kt} {k : Nat} {σ : Sg} (go : GoL L xs rt X) (hk : 6 * k + 6 ≤ L) (hL : L ≤ 3072) (h : J σ) (hx : ∀ σ', J σ' → X 1660 (lvL k) [] σ') : X 240 (lvL k) [] σ := by
  obtain ⟨r, rt1, c1, h1⟩ := (P_visits h (xs (6 * k + 1)) (xs (6 * k + 2))).G
  refine (go _ (zL_0 L xs)).1 [1660] 70 _ _ _ _ ?_
  refine Exists.intro (6 * k + 1) (And.intro ⟨nI_1 _, by omega, by omega⟩ ?_)
  refine Exists.intro (6 * k + 2) (And.intro ⟨nI_add _ 2, by omega, by omega⟩ ?_)
  refine clG c1 (fun v1 σ1 e1 => ?_)
  obtain ⟨rfl, rt2, c2, h2⟩ := h1 v1 σ1 e1
  refine Exists.intro (6 * k + 1) (And.intro ⟨nI_1 _, by omega, by omega⟩ ?_)
  refine Exists.intro (6 * k + 2) (And.intro ⟨nI_add _ 2, by omega, by omega⟩ ?_)
  refine clG c2 (fun v2 σ2 e2 => ?_)
  obtain ⟨rfl, hj⟩ := h2 v2 σ2 e2
  refine br_t rfl ?_
  exact hx _ hj
theorem case_1 {L : Nat} {xs : Nat → Int32} {rt : Rt} {X : Kt} {k : Nat} {σ : Sg} (go : GoL L xs rt X) (hk : 6 * k + 6 ≤ L) (hL : L ≤ 3072) (h : J σ) (hx : ∀ σ', J σ' → X 1660 (lvL k) [] σ') : X 273 (lvL k) [] σ := by
  by_cases hz : xs (6 * k + 2) = 0
  · obtain ⟨r, rt1, c1, h1⟩ := (P_shade h (xs (6 * k + 1)) 0).G
    refine (go _ (zL_1 L xs)).1 [1660] 70 _ _ _ _ ?_
    refine Exists.intro (6 * k + 1) (And.intro ⟨nI_1 _, by omega, by omega⟩ ?_)
    refine Exists.intro (6 * k + 2) (And.intro ⟨nI_add _ 2, by omega, by omega⟩ ?_)
    refine br_t hz ?_
    refine clG c1 (fun v1 σ1 e1 => ?_)
    obtain ⟨rfl, rt2, c2, h2⟩ := h1 v1 σ1 e1
    refine Exists.intro (6 * k + 1) (And.intro ⟨nI_1 _, by omega, by omega⟩ ?_)
    refine Exists.intro (6 * k + 2) (And.intro ⟨nI_add _ 2, by omega, by omega⟩ ?_)
    refine br_t hz ?_
    refine clG c2 (fun v2 σ2 e2 => ?_)
    obtain ⟨rfl, hj⟩ := h2 v2 σ2 e2
    refine br_t rfl ?_
    exact hx _ hj
  · obtain ⟨r, rt1, c1, h1⟩ := (P_shade h (xs (6 * k + 1)) 1).G
    refine (go _ (zL_1 L xs)).1 [1660] 70 _ _ _ _ ?_
    refine Exists.intro (6 * k + 1) (And.intro ⟨nI_1 _, by omega, by omega⟩ ?_)
    refine Exists.intro (6 * k + 2) (And.intro ⟨nI_add _ 2, by omega, by omega⟩ ?_)
    refine br_f hz ?_
    refine clG c1 (fun v1 σ1 e1 => ?_)
    obtain ⟨rfl, rt2, c2, h2⟩ := h1 v1 σ1 e1
    refine Exists.intro (6 * k + 1) (And.intro ⟨nI_1 _, by omega, by omega⟩ ?_)
    refine Exists.intro (6 * k + 2) (And.intro ⟨nI_add _ 2, by omega, by omega⟩ ?_)
    refine br_f hz ?_
    refine clG c2 (fun v2 σ2 e2 => ?_)
    obtain ⟨rfl, hj⟩ := h2 v2 σ2 e2
    refine br_t rfl ?_
    exact hx _ hj
theorem case_2 {L : Nat} {xs : Nat → Int32} {rt : Rt} {X : Kt} {k : Nat} {σ : Sg} (go : GoL L xs rt X) (hk : 6 * k + 6 ≤ L) (hL : L ≤ 3072) (h : J σ) (hx : ∀ σ', J σ' → X 1660 (lvL k) [] σ') : X 322 (lvL k) [] σ := by
  obtain ⟨r, rt1, c1, h1⟩ := (P_spring h (xs (6 * k + 1))).G
  refine (go _ (zL_2 L xs)).1 [1660] 70 _ _ _ _ ?_
  refine Exists.intro (6 * k + 1) (And.intro ⟨nI_1 _, by omega, by omega⟩ ?_)
  refine clG c1 (fun v1 σ1 e1 => ?_)
  obtain ⟨rfl, rt2, c2, h2⟩ := h1 v1 σ1 e1
  refine Exists.intro (6 * k + 1) (And.intro ⟨nI_1 _, by omega, by omega⟩ ?_)
  refine clG c2 (fun v2 σ2 e2 => ?_)
  obtain ⟨rfl, hj⟩ := h2 v2 σ2 e2
  refine br_t rfl ?_
  exact hx _ hj
theorem case_3 {L : Nat} {xs : Nat → Int32} {rt : Rt} {X : Kt} {k : Nat} {σ : Sg} (go : GoL L xs rt X) (hk : 6 * k + 6 ≤ L) (hL : L ≤ 3072) (h : J σ) (hx : ∀ σ', J σ' → X 1660 (lvL k) [] σ') : X 345 (lvL k) [] σ := by
  obtain ⟨r, rt1, c1, h1⟩ := (P_stall h (xs (6 * k + 1)) (xs (6 * k + 2))).G
  refine (go _ (zL_3 L xs)).1 [1660] 70 _ _ _ _ ?_
  refine Exists.intro (6 * k + 1) (And.intro ⟨nI_1 _, by omega, by omega⟩ ?_)
  refine Exists.intro (6 * k + 2) (And.intro ⟨nI_add _ 2, by omega, by omega⟩ ?_)
  refine clG c1 (fun v1 σ1 e1 => ?_)
  obtain ⟨rfl, rt2, c2, h2⟩ := h1 v1 σ1 e1
  refine Exists.intro (6 * k + 1) (And.intro ⟨nI_1 _, by omega, by omega⟩ ?_)
  refine Exists.intro (6 * k + 2) (And.intro ⟨nI_add _ 2, by omega, by omega⟩ ?_)
  refine clG c2 (fun v2 σ2 e2 => ?_)
  obtain ⟨rfl, hj⟩ := h2 v2 σ2 e2
  refine br_t rfl ?_
  exact hx _ hj
theorem case_4 {L : Nat} {xs : Nat → Int32} {rt : Rt} {X : Kt} {k : Nat} {σ : Sg} (go : GoL L xs rt X) (hk : 6 * k + 6 ≤ L) (hL : L ≤ 3072) (h : J σ) (hx : ∀ σ', J σ' → X 1660 (lvL k) [] σ') : X 378 (lvL k) [] σ := by
  obtain ⟨r, rt1, c1, h1⟩ := (P_of h (xs (6 * k + 1)) (xs (6 * k + 2))).G
  refine (go _ (zL_4 L xs)).1 [1660] 70 _ _ _ _ ?_
  refine Exists.intro (6 * k + 1) (And.intro ⟨nI_1 _, by omega, by omega⟩ ?_)
  refine Exists.intro (6 * k + 2) (And.intro ⟨nI_add _ 2, by omega, by omega⟩ ?_)
  refine clG c1 (fun v1 σ1 e1 => ?_)
  obtain ⟨rfl, rt2, c2, h2⟩ := h1 v1 σ1 e1
  refine Exists.intro (6 * k + 1) (And.intro ⟨nI_1 _, by omega, by omega⟩ ?_)
  refine Exists.intro (6 * k + 2) (And.intro ⟨nI_add _ 2, by omega, by omega⟩ ?_)
  refine clG c2 (fun v2 σ2 e2 => ?_)
  obtain ⟨rfl, hj⟩ := h2 v2 σ2 e2
  refine br_t rfl ?_
  exact hx _ hj
theorem case_5 {L : Nat} {xs : Nat → Int32} {rt : Rt} {X : Kt} {k : Nat} {σ : Sg} (go : GoL L xs rt X) (hk : 6 * k + 6 ≤ L) (hL : L ≤ 3072) (h : J σ) (hx : ∀ σ', J σ' → X 1660 (lvL k) [] σ') : X 411 (lvL k) [] σ := by
  obtain ⟨r, rt1, c1, h1⟩ := (P_change h (xs (6 * k + 1)) (xs (6 * k + 2)) (xs (6 * k + 3))).G
  refine (go _ (zL_5 L xs)).1 [1660] 70 _ _ _ _ ?_
  refine Exists.intro (6 * k + 1) (And.intro ⟨nI_1 _, by omega, by omega⟩ ?_)
  refine Exists.intro (6 * k + 2) (And.intro ⟨nI_add _ 2, by omega, by omega⟩ ?_)
  refine Exists.intro (6 * k + 3) (And.intro ⟨nI_add _ 3, by omega, by omega⟩ ?_)
  refine clG c1 (fun v1 σ1 e1 => ?_)
  obtain ⟨rfl, rt2, c2, h2⟩ := h1 v1 σ1 e1
  refine Exists.intro (6 * k + 1) (And.intro ⟨nI_1 _, by omega, by omega⟩ ?_)
  refine Exists.intro (6 * k + 2) (And.intro ⟨nI_add _ 2, by omega, by omega⟩ ?_)
  refine Exists.intro (6 * k + 3) (And.intro ⟨nI_add _ 3, by omega, by omega⟩ ?_)
  refine clG c2 (fun v2 σ2 e2 => ?_)
  obtain ⟨rfl, hj⟩ := h2 v2 σ2 e2
  refine br_t rfl ?_
  exact hx _ hj
theorem case_6 {L : Nat} {xs : Nat → Int32} {rt : Rt} {X : Kt} {k : Nat} {σ : Sg} (go : GoL L xs rt X) (hk : 6 * k + 6 ≤ L) (hL : L ≤ 3072) (h : J σ) (hx : ∀ σ', J σ' → X 1660 (lvL k) [] σ') : X 454 (lvL k) [] σ := by
  obtain ⟨r, rt1, c1, h1⟩ := (P_swap h (xs (6 * k + 1)) (xs (6 * k + 2))).G
  refine (go _ (zL_6 L xs)).1 [1660] 70 _ _ _ _ ?_
  refine Exists.intro (6 * k + 1) (And.intro ⟨nI_1 _, by omega, by omega⟩ ?_)
  refine Exists.intro (6 * k + 2) (And.intro ⟨nI_add _ 2, by omega, by omega⟩ ?_)
  refine clG c1 (fun v1 σ1 e1 => ?_)
  obtain ⟨rfl, rt2, c2, h2⟩ := h1 v1 σ1 e1
  refine Exists.intro (6 * k + 1) (And.intro ⟨nI_1 _, by omega, by omega⟩ ?_)
  refine Exists.intro (6 * k + 2) (And.intro ⟨nI_add _ 2, by omega, by omega⟩ ?_)
  refine clG c2 (fun v2 σ2 e2 => ?_)
  obtain ⟨rfl, hj⟩ := h2 v2 σ2 e2
  refine br_t rfl ?_
  exact hx _ hj
theorem case_7 {L : Nat} {xs : Nat → Int32} {rt : Rt} {X : Kt} {k : Nat} {σ : Sg} (go : GoL L xs rt X) (hk : 6 * k + 6 ≤ L) (hL : L ≤ 3072) (h : J σ) (hx : ∀ σ', J σ' → X 1660 (lvL k) [] σ') : X 487 (lvL k) [] σ := by
  obtain ⟨r, rt1, c1, h1⟩ := (P_offers h (xs (6 * k + 1)) (xs (6 * k + 2))).G
  refine (go _ (zL_7 L xs)).1 [1660] 70 _ _ _ _ ?_
  refine Exists.intro (6 * k + 1) (And.intro ⟨nI_1 _, by omega, by omega⟩ ?_)
  refine Exists.intro (6 * k + 2) (And.intro ⟨nI_add _ 2, by omega, by omega⟩ ?_)
  refine clG c1 (fun v1 σ1 e1 => ?_)
  obtain ⟨rfl, rt2, c2, h2⟩ := h1 v1 σ1 e1
  refine Exists.intro (6 * k + 1) (And.intro ⟨nI_1 _, by omega, by omega⟩ ?_)
  refine Exists.intro (6 * k + 2) (And.intro ⟨nI_add _ 2, by omega, by omega⟩ ?_)
  refine clG c2 (fun v2 σ2 e2 => ?_)
  obtain ⟨rfl, hj⟩ := h2 v2 σ2 e2
  refine br_t rfl ?_
  exact hx _ hj
theorem case_8 {L : Nat} {xs : Nat → Int32} {rt : Rt} {X : Kt} {k : Nat} {σ : Sg} (go : GoL L xs rt X) (hk : 6 * k + 6 ≤ L) (hL : L ≤ 3072) (h : J σ) (hx : ∀ σ', J σ' → X 1660 (lvL k) [] σ') : X 520 (lvL k) [] σ := by
  obtain ⟨r, rt1, c1, h1⟩ := (P_placeOf h (xs (6 * k + 1)) (xs (6 * k + 2))).G
  refine (go _ (zL_8 L xs)).1 [1660] 70 _ _ _ _ ?_
  refine Exists.intro (6 * k + 1) (And.intro ⟨nI_1 _, by omega, by omega⟩ ?_)
  refine Exists.intro (6 * k + 2) (And.intro ⟨nI_add _ 2, by omega, by omega⟩ ?_)
  refine clG c1 (fun v1 σ1 e1 => ?_)
  obtain ⟨rfl, rt2, c2, h2⟩ := h1 v1 σ1 e1
  refine Exists.intro (6 * k + 1) (And.intro ⟨nI_1 _, by omega, by omega⟩ ?_)
  refine Exists.intro (6 * k + 2) (And.intro ⟨nI_add _ 2, by omega, by omega⟩ ?_)
  refine clG c2 (fun v2 σ2 e2 => ?_)
  obtain ⟨rfl, hj⟩ := h2 v2 σ2 e2
  refine br_t rfl ?_
  exact hx _ hj
theorem case_9 {L : Nat} {xs : Nat → Int32} {rt : Rt} {X : Kt} {k : Nat} {σ : Sg} (go : GoL L xs rt X) (hk : 6 * k + 6 ≤ L) (hL : L ≤ 3072) (h : J σ) (hx : ∀ σ', J σ' → X 1660 (lvL k) [] σ') : X 553 (lvL k) [] σ := by
  obtain ⟨r, rt1, c1, h1⟩ := (P_hours h (xs (6 * k + 1))).G
  refine (go _ (zL_9 L xs)).1 [1660] 70 _ _ _ _ ?_
  refine Exists.intro (6 * k + 1) (And.intro ⟨nI_1 _, by omega, by omega⟩ ?_)
  refine clG c1 (fun v1 σ1 e1 => ?_)
  obtain ⟨rfl, rt2, c2, h2⟩ := h1 v1 σ1 e1
  refine Exists.intro (6 * k + 1) (And.intro ⟨nI_1 _, by omega, by omega⟩ ?_)
  refine clG c2 (fun v2 σ2 e2 => ?_)
  obtain ⟨rfl, hj⟩ := h2 v2 σ2 e2
  refine br_t rfl ?_
  exact hx _ hj
theorem case_10 {L : Nat} {xs : Nat → Int32} {rt : Rt} {X : Kt} {k : Nat} {σ : Sg} (go : GoL L xs rt X) (hk : 6 * k + 6 ≤ L) (hL : L ≤ 3072) (h : J σ) (hx : ∀ σ', J σ' → X 1660 (lvL k) [] σ') : X 576 (lvL k) [] σ := by
  obtain ⟨r, rt1, c1, h1⟩ := (P_stay h ).G
  refine (go _ (zL_10 L xs)).1 [1660] 70 _ _ _ _ ?_
  refine clG c1 (fun v1 σ1 e1 => ?_)
  obtain ⟨rfl, rt2, c2, h2⟩ := h1 v1 σ1 e1
  refine clG c2 (fun v2 σ2 e2 => ?_)
  obtain ⟨rfl, hj⟩ := h2 v2 σ2 e2
  refine br_t rfl ?_
  exact hx _ hj
theorem case_11 {L : Nat} {xs : Nat → Int32} {rt : Rt} {X : Kt} {k : Nat} {σ : Sg} (go : GoL L xs rt X) (hk : 6 * k + 6 ≤ L) (hL : L ≤ 3072) (h : J σ) (hx : ∀ σ', J σ' → X 1660 (lvL k) [] σ') : X 589 (lvL k) [] σ := by
  obtain ⟨r, rt1, c1, h1⟩ := (P_ahead h (xs (6 * k + 1)) (xs (6 * k + 2))).G
  refine (go _ (zL_11 L xs)).1 [1660] 70 _ _ _ _ ?_
  refine Exists.intro (6 * k + 1) (And.intro ⟨nI_1 _, by omega, by omega⟩ ?_)
  refine Exists.intro (6 * k + 2) (And.intro ⟨nI_add _ 2, by omega, by omega⟩ ?_)
  refine clG c1 (fun v1 σ1 e1 => ?_)
  obtain ⟨rfl, rt2, c2, h2⟩ := h1 v1 σ1 e1
  refine Exists.intro (6 * k + 1) (And.intro ⟨nI_1 _, by omega, by omega⟩ ?_)
  refine Exists.intro (6 * k + 2) (And.intro ⟨nI_add _ 2, by omega, by omega⟩ ?_)
  refine clG c2 (fun v2 σ2 e2 => ?_)
  obtain ⟨rfl, hj⟩ := h2 v2 σ2 e2
  refine br_t rfl ?_
  exact hx _ hj
theorem case_12 {L : Nat} {xs : Nat → Int32} {rt : Rt} {X : Kt} {k : Nat} {σ : Sg} (go : GoL L xs rt X) (hk : 6 * k + 6 ≤ L) (hL : L ≤ 3072) (h : J σ) (hx : ∀ σ', J σ' → X 1660 (lvL k) [] σ') : X 622 (lvL k) [] σ := by
  obtain ⟨r, rt1, c1, h1⟩ := (P_when h (xs (6 * k + 1)) (xs (6 * k + 2))).G
  refine (go _ (zL_12 L xs)).1 [1660] 70 _ _ _ _ ?_
  refine Exists.intro (6 * k + 1) (And.intro ⟨nI_1 _, by omega, by omega⟩ ?_)
  refine Exists.intro (6 * k + 2) (And.intro ⟨nI_add _ 2, by omega, by omega⟩ ?_)
  refine clG c1 (fun v1 σ1 e1 => ?_)
  obtain ⟨rfl, rt2, c2, h2⟩ := h1 v1 σ1 e1
  refine Exists.intro (6 * k + 1) (And.intro ⟨nI_1 _, by omega, by omega⟩ ?_)
  refine Exists.intro (6 * k + 2) (And.intro ⟨nI_add _ 2, by omega, by omega⟩ ?_)
  refine clG c2 (fun v2 σ2 e2 => ?_)
  obtain ⟨rfl, hj⟩ := h2 v2 σ2 e2
  refine br_t rfl ?_
  exact hx _ hj
theorem case_13 {L : Nat} {xs : Nat → Int32} {rt : Rt} {X : Kt} {k : Nat} {σ : Sg} (go : GoL L xs rt X) (hk : 6 * k + 6 ≤ L) (hL : L ≤ 3072) (h : J σ) (hx : ∀ σ', J σ' → X 1660 (lvL k) [] σ') : X 655 (lvL k) [] σ := by
  obtain ⟨r, rt1, c1, h1⟩ := (P_empty h (xs (6 * k + 1))).G
  refine (go _ (zL_13 L xs)).1 [1660] 70 _ _ _ _ ?_
  refine Exists.intro (6 * k + 1) (And.intro ⟨nI_1 _, by omega, by omega⟩ ?_)
  refine clG c1 (fun v1 σ1 e1 => ?_)
  obtain ⟨rfl, rt2, c2, h2⟩ := h1 v1 σ1 e1
  refine Exists.intro (6 * k + 1) (And.intro ⟨nI_1 _, by omega, by omega⟩ ?_)
  refine clG c2 (fun v2 σ2 e2 => ?_)
  obtain ⟨rfl, hj⟩ := h2 v2 σ2 e2
  refine br_t rfl ?_
  exact hx _ hj
theorem case_14 {L : Nat} {xs : Nat → Int32} {rt : Rt} {X : Kt} {k : Nat} {σ : Sg} (go : GoL L xs rt X) (hk : 6 * k + 6 ≤ L) (hL : L ≤ 3072) (h : J σ) (hx : ∀ σ', J σ' → X 1660 (lvL k) [] σ') : X 678 (lvL k) [] σ := by
  obtain ⟨r, rt1, c1, h1⟩ := (P_again h ).G
  refine (go _ (zL_14 L xs)).1 [1660] 70 _ _ _ _ ?_
  refine clG c1 (fun v1 σ1 e1 => ?_)
  obtain ⟨rfl, rt2, c2, h2⟩ := h1 v1 σ1 e1
  refine clG c2 (fun v2 σ2 e2 => ?_)
  obtain ⟨rfl, hj⟩ := h2 v2 σ2 e2
  refine br_t rfl ?_
  exact hx _ hj
theorem case_15 {L : Nat} {xs : Nat → Int32} {rt : Rt} {X : Kt} {k : Nat} {σ : Sg} (go : GoL L xs rt X) (hk : 6 * k + 6 ≤ L) (hL : L ≤ 3072) (h : J σ) (hx : ∀ σ', J σ' → X 1660 (lvL k) [] σ') : X 691 (lvL k) [] σ := by
  obtain ⟨r, rt1, c1, h1⟩ := (P_there h (xs (6 * k + 1)) (xs (6 * k + 2))).G
  refine (go _ (zL_15 L xs)).1 [1660] 70 _ _ _ _ ?_
  refine Exists.intro (6 * k + 1) (And.intro ⟨nI_1 _, by omega, by omega⟩ ?_)
  refine Exists.intro (6 * k + 2) (And.intro ⟨nI_add _ 2, by omega, by omega⟩ ?_)
  refine clG c1 (fun v1 σ1 e1 => ?_)
  obtain ⟨rfl, rt2, c2, h2⟩ := h1 v1 σ1 e1
  refine Exists.intro (6 * k + 1) (And.intro ⟨nI_1 _, by omega, by omega⟩ ?_)
  refine Exists.intro (6 * k + 2) (And.intro ⟨nI_add _ 2, by omega, by omega⟩ ?_)
  refine clG c2 (fun v2 σ2 e2 => ?_)
  obtain ⟨rfl, hj⟩ := h2 v2 σ2 e2
  refine br_t rfl ?_
  exact hx _ hj
theorem case_16 {L : Nat} {xs : Nat → Int32} {rt : Rt} {X : Kt} {k : Nat} {σ : Sg} (go : GoL L xs rt X) (hk : 6 * k + 6 ≤ L) (hL : L ≤ 3072) (h : J σ) (hx : ∀ σ', J σ' → X 1660 (lvL k) [] σ') : X 724 (lvL k) [] σ := by
  obtain ⟨r, rt1, c1, h1⟩ := (P_passes h (xs (6 * k + 1))).G
  refine (go _ (zL_16 L xs)).1 [1660] 70 _ _ _ _ ?_
  refine Exists.intro (6 * k + 1) (And.intro ⟨nI_1 _, by omega, by omega⟩ ?_)
  refine clG c1 (fun v1 σ1 e1 => ?_)
  obtain ⟨rfl, rt2, c2, h2⟩ := h1 v1 σ1 e1
  refine Exists.intro (6 * k + 1) (And.intro ⟨nI_1 _, by omega, by omega⟩ ?_)
  refine clG c2 (fun v2 σ2 e2 => ?_)
  obtain ⟨rfl, hj⟩ := h2 v2 σ2 e2
  refine br_t rfl ?_
  exact hx _ hj
theorem case_17 {L : Nat} {xs : Nat → Int32} {rt : Rt} {X : Kt} {k : Nat} {σ : Sg} (go : GoL L xs rt X) (hk : 6 * k + 6 ≤ L) (hL : L ≤ 3072) (h : J σ) (hx : ∀ σ', J σ' → X 1660 (lvL k) [] σ') : X 747 (lvL k) [] σ := by
  obtain ⟨r, rt1, c1, h1⟩ := (P_most h (xs (6 * k + 1)))
  refine (go _ (zL_17 L xs)).1 [1660] 70 _ _ _ _ ?_
  refine Exists.intro (6 * k + 1) (And.intro ⟨nI_1 _, by omega, by omega⟩ ?_)
  refine clG c1 (fun v1 σ1 e1 => ?_)
  obtain ⟨rfl, rt2, c2, h2⟩ := h1 v1 σ1 e1
  refine Exists.intro (6 * k + 1) (And.intro ⟨nI_1 _, by omega, by omega⟩ ?_)
  refine clG c2 (fun v2 σ2 e2 => ?_)
  obtain ⟨rfl, hj⟩ := h2 v2 σ2 e2
  refine br_t rfl ?_
  exact hx _ hj
theorem case_18 {L : Nat} {xs : Nat → Int32} {rt : Rt} {X : Kt} {k : Nat} {σ : Sg} (go : GoL L xs rt X) (hk : 6 * k + 6 ≤ L) (hL : L ≤ 3072) (h : J σ) (hx : ∀ σ', J σ' → X 1660 (lvL k) [] σ') : X 770 (lvL k) [] σ := by
  obtain ⟨r, rt1, c1, h1⟩ := (P_order h (xs (6 * k + 1)) (xs (6 * k + 2)))
  refine (go _ (zL_18 L xs)).1 [1660] 70 _ _ _ _ ?_
  refine Exists.intro (6 * k + 1) (And.intro ⟨nI_1 _, by omega, by omega⟩ ?_)
  refine Exists.intro (6 * k + 2) (And.intro ⟨nI_add _ 2, by omega, by omega⟩ ?_)
  refine clG c1 (fun v1 σ1 e1 => ?_)
  obtain ⟨rfl, rt2, c2, h2⟩ := h1 v1 σ1 e1
  refine Exists.intro (6 * k + 1) (And.intro ⟨nI_1 _, by omega, by omega⟩ ?_)
  refine Exists.intro (6 * k + 2) (And.intro ⟨nI_add _ 2, by omega, by omega⟩ ?_)
  refine clG c2 (fun v2 σ2 e2 => ?_)
  obtain ⟨rfl, hj⟩ := h2 v2 σ2 e2
  refine br_t rfl ?_
  exact hx _ hj
theorem case_19 {L : Nat} {xs : Nat → Int32} {rt : Rt} {X : Kt} {k : Nat} {σ : Sg} (go : GoL L xs rt X) (hk : 6 * k + 6 ≤ L) (hL : L ≤ 3072) (h : J σ) (hx : ∀ σ', J σ' → X 1660 (lvL k) [] σ') : X 803 (lvL k) [] σ := by
  obtain ⟨r, rt1, c1, h1⟩ := (P_dawn h (xs (6 * k + 1)) (xs (6 * k + 2)) (xs (6 * k + 3)))
  refine (go _ (zL_19 L xs)).1 [1660] 70 _ _ _ _ ?_
  refine Exists.intro (6 * k + 1) (And.intro ⟨nI_1 _, by omega, by omega⟩ ?_)
  refine Exists.intro (6 * k + 2) (And.intro ⟨nI_add _ 2, by omega, by omega⟩ ?_)
  refine Exists.intro (6 * k + 3) (And.intro ⟨nI_add _ 3, by omega, by omega⟩ ?_)
  refine clG c1 (fun v1 σ1 e1 => ?_)
  obtain ⟨rfl, rt2, c2, h2⟩ := h1 v1 σ1 e1
  refine Exists.intro (6 * k + 1) (And.intro ⟨nI_1 _, by omega, by omega⟩ ?_)
  refine Exists.intro (6 * k + 2) (And.intro ⟨nI_add _ 2, by omega, by omega⟩ ?_)
  refine Exists.intro (6 * k + 3) (And.intro ⟨nI_add _ 3, by omega, by omega⟩ ?_)
  refine clG c2 (fun v2 σ2 e2 => ?_)
  obtain ⟨rfl, hj⟩ := h2 v2 σ2 e2
  refine br_t rfl ?_
  exact hx _ hj
theorem case_20 {L : Nat} {xs : Nat → Int32} {rt : Rt} {X : Kt} {k : Nat} {σ : Sg} (go : GoL L xs rt X) (hk : 6 * k + 6 ≤ L) (hL : L ≤ 3072) (h : J σ) (hx : ∀ σ', J σ' → X 1660 (lvL k) [] σ') : X 846 (lvL k) [] σ := by
  obtain ⟨r, rt1, c1, h1⟩ := (P_throwAway h (xs (6 * k + 1)) (xs (6 * k + 2))).G
  refine (go _ (zL_20 L xs)).1 [1660] 70 _ _ _ _ ?_
  refine Exists.intro (6 * k + 1) (And.intro ⟨nI_1 _, by omega, by omega⟩ ?_)
  refine Exists.intro (6 * k + 2) (And.intro ⟨nI_add _ 2, by omega, by omega⟩ ?_)
  refine clG c1 (fun v1 σ1 e1 => ?_)
  obtain ⟨rfl, rt2, c2, h2⟩ := h1 v1 σ1 e1
  refine Exists.intro (6 * k + 1) (And.intro ⟨nI_1 _, by omega, by omega⟩ ?_)
  refine Exists.intro (6 * k + 2) (And.intro ⟨nI_add _ 2, by omega, by omega⟩ ?_)
  refine clG c2 (fun v2 σ2 e2 => ?_)
  obtain ⟨rfl, hj⟩ := h2 v2 σ2 e2
  refine br_t rfl ?_
  exact hx _ hj
theorem case_21 {L : Nat} {xs : Nat → Int32} {rt : Rt} {X : Kt} {k : Nat} {σ : Sg} (go : GoL L xs rt X) (hk : 6 * k + 6 ≤ L) (hL : L ≤ 3072) (h : J σ) (hx : ∀ σ', J σ' → X 1660 (lvL k) [] σ') : X 879 (lvL k) [] σ := by
  obtain ⟨r, rt1, c1, h1⟩ := (P_wishes h (xs (6 * k + 1)) (xs (6 * k + 2))).G
  refine (go _ (zL_21 L xs)).1 [1660] 70 _ _ _ _ ?_
  refine Exists.intro (6 * k + 1) (And.intro ⟨nI_1 _, by omega, by omega⟩ ?_)
  refine Exists.intro (6 * k + 2) (And.intro ⟨nI_add _ 2, by omega, by omega⟩ ?_)
  refine clG c1 (fun v1 σ1 e1 => ?_)
  obtain ⟨rfl, rt2, c2, h2⟩ := h1 v1 σ1 e1
  refine Exists.intro (6 * k + 1) (And.intro ⟨nI_1 _, by omega, by omega⟩ ?_)
  refine Exists.intro (6 * k + 2) (And.intro ⟨nI_add _ 2, by omega, by omega⟩ ?_)
  refine clG c2 (fun v2 σ2 e2 => ?_)
  obtain ⟨rfl, hj⟩ := h2 v2 σ2 e2
  refine br_t rfl ?_
  exact hx _ hj
theorem case_22 {L : Nat} {xs : Nat → Int32} {rt : Rt} {X : Kt} {k : Nat} {σ : Sg} (go : GoL L xs rt X) (hk : 6 * k + 6 ≤ L) (hL : L ≤ 3072) (h : J σ) (hx : ∀ σ', J σ' → X 1660 (lvL k) [] σ') : X 912 (lvL k) [] σ := by
  obtain ⟨r, rt1, c1, h1⟩ := (P_deal h (xs (6 * k + 1))).G
  refine (go _ (zL_22 L xs)).1 [1660] 70 _ _ _ _ ?_
  refine Exists.intro (6 * k + 1) (And.intro ⟨nI_1 _, by omega, by omega⟩ ?_)
  refine clG c1 (fun v1 σ1 e1 => ?_)
  obtain ⟨rfl, rt2, c2, h2⟩ := h1 v1 σ1 e1
  refine Exists.intro (6 * k + 1) (And.intro ⟨nI_1 _, by omega, by omega⟩ ?_)
  refine clG c2 (fun v2 σ2 e2 => ?_)
  obtain ⟨rfl, hj⟩ := h2 v2 σ2 e2
  refine br_t rfl ?_
  exact hx _ hj
theorem case_23 {L : Nat} {xs : Nat → Int32} {rt : Rt} {X : Kt} {k : Nat} {σ : Sg} (go : GoL L xs rt X) (hk : 6 * k + 6 ≤ L) (hL : L ≤ 3072) (h : J σ) (hx : ∀ σ', J σ' → X 1660 (lvL k) [] σ') : X 935 (lvL k) [] σ := by
  obtain ⟨r, rt1, c1, h1⟩ := (P_beside h (xs (6 * k + 1))).G
  refine (go _ (zL_23 L xs)).1 [1660] 70 _ _ _ _ ?_
  refine Exists.intro (6 * k + 1) (And.intro ⟨nI_1 _, by omega, by omega⟩ ?_)
  refine clG c1 (fun v1 σ1 e1 => ?_)
  obtain ⟨rfl, rt2, c2, h2⟩ := h1 v1 σ1 e1
  refine Exists.intro (6 * k + 1) (And.intro ⟨nI_1 _, by omega, by omega⟩ ?_)
  refine clG c2 (fun v2 σ2 e2 => ?_)
  obtain ⟨rfl, hj⟩ := h2 v2 σ2 e2
  refine br_t rfl ?_
  exact hx _ hj
theorem case_24 {L : Nat} {xs : Nat → Int32} {rt : Rt} {X : Kt} {k : Nat} {σ : Sg} (go : GoL L xs rt X) (hk : 6 * k + 6 ≤ L) (hL : L ≤ 3072) (h : J σ) (hx : ∀ σ', J σ' → X 1660 (lvL k) [] σ') : X 958 (lvL k) [] σ := by
  obtain ⟨r, rt1, c1, h1⟩ := (P_ever h (xs (6 * k + 1)) (xs (6 * k + 2))).G
  refine (go _ (zL_24 L xs)).1 [1660] 70 _ _ _ _ ?_
  refine Exists.intro (6 * k + 1) (And.intro ⟨nI_1 _, by omega, by omega⟩ ?_)
  refine Exists.intro (6 * k + 2) (And.intro ⟨nI_add _ 2, by omega, by omega⟩ ?_)
  refine clG c1 (fun v1 σ1 e1 => ?_)
  obtain ⟨rfl, rt2, c2, h2⟩ := h1 v1 σ1 e1
  refine Exists.intro (6 * k + 1) (And.intro ⟨nI_1 _, by omega, by omega⟩ ?_)
  refine Exists.intro (6 * k + 2) (And.intro ⟨nI_add _ 2, by omega, by omega⟩ ?_)
  refine clG c2 (fun v2 σ2 e2 => ?_)
  obtain ⟨rfl, hj⟩ := h2 v2 σ2 e2
  refine br_t rfl ?_
  exact hx _ hj
theorem case_25 {L : Nat} {xs : Nat → Int32} {rt : Rt} {X : Kt} {k : Nat} {σ : Sg} (go : GoL L xs rt X) (hk : 6 * k + 6 ≤ L) (hL : L ≤ 3072) (h : J σ) (hx : ∀ σ', J σ' → X 1660 (lvL k) [] σ') : X 991 (lvL k) [] σ := by
  obtain ⟨r, rt1, c1, h1⟩ := (P_meet h (xs (6 * k + 1)) (xs (6 * k + 2))).G
  refine (go _ (zL_25 L xs)).1 [1660] 70 _ _ _ _ ?_
  refine Exists.intro (6 * k + 1) (And.intro ⟨nI_1 _, by omega, by omega⟩ ?_)
  refine Exists.intro (6 * k + 2) (And.intro ⟨nI_add _ 2, by omega, by omega⟩ ?_)
  refine clG c1 (fun v1 σ1 e1 => ?_)
  obtain ⟨rfl, rt2, c2, h2⟩ := h1 v1 σ1 e1
  refine Exists.intro (6 * k + 1) (And.intro ⟨nI_1 _, by omega, by omega⟩ ?_)
  refine Exists.intro (6 * k + 2) (And.intro ⟨nI_add _ 2, by omega, by omega⟩ ?_)
  refine clG c2 (fun v2 σ2 e2 => ?_)
  obtain ⟨rfl, hj⟩ := h2 v2 σ2 e2
  refine br_t rfl ?_
  exact hx _ hj
theorem case_26 {L : Nat} {xs : Nat → Int32} {rt : Rt} {X : Kt} {k : Nat} {σ : Sg} (go : GoL L xs rt X) (hk : 6 * k + 6 ≤ L) (hL : L ≤ 3072) (h : J σ) (hx : ∀ σ', J σ' → X 1660 (lvL k) [] σ') : X 1024 (lvL k) [] σ := by
  obtain ⟨r, rt1, c1, h1⟩ := (P_never h (xs (6 * k + 1)) (xs (6 * k + 2)) (xs (6 * k + 3)))
  refine (go _ (zL_26 L xs)).1 [1660] 70 _ _ _ _ ?_
  refine Exists.intro (6 * k + 1) (And.intro ⟨nI_1 _, by omega, by omega⟩ ?_)
  refine Exists.intro (6 * k + 2) (And.intro ⟨nI_add _ 2, by omega, by omega⟩ ?_)
  refine Exists.intro (6 * k + 3) (And.intro ⟨nI_add _ 3, by omega, by omega⟩ ?_)
  refine clG c1 (fun v1 σ1 e1 => ?_)
  obtain ⟨rfl, rt2, c2, h2⟩ := h1 v1 σ1 e1
  refine Exists.intro (6 * k + 1) (And.intro ⟨nI_1 _, by omega, by omega⟩ ?_)
  refine Exists.intro (6 * k + 2) (And.intro ⟨nI_add _ 2, by omega, by omega⟩ ?_)
  refine Exists.intro (6 * k + 3) (And.intro ⟨nI_add _ 3, by omega, by omega⟩ ?_)
  refine clG c2 (fun v2 σ2 e2 => ?_)
  obtain ⟨rfl, hj⟩ := h2 v2 σ2 e2
  refine br_t rfl ?_
  exact hx _ hj
theorem case_27 {L : Nat} {xs : Nat → Int32} {rt : Rt} {X : Kt} {k : Nat} {σ : Sg} (go : GoL L xs rt X) (hk : 6 * k + 6 ≤ L) (hL : L ≤ 3072) (h : J σ) (hx : ∀ σ', J σ' → X 1660 (lvL k) [] σ') : X 1067 (lvL k) [] σ := by
  obtain ⟨r, rt1, c1, h1⟩ := (P_worth h (xs (6 * k + 1)) (xs (6 * k + 2)) (xs (6 * k + 3))).G
  refine (go _ (zL_27 L xs)).1 [1660] 70 _ _ _ _ ?_
  refine Exists.intro (6 * k + 1) (And.intro ⟨nI_1 _, by omega, by omega⟩ ?_)
  refine Exists.intro (6 * k + 2) (And.intro ⟨nI_add _ 2, by omega, by omega⟩ ?_)
  refine Exists.intro (6 * k + 3) (And.intro ⟨nI_add _ 3, by omega, by omega⟩ ?_)
  refine clG c1 (fun v1 σ1 e1 => ?_)
  obtain ⟨rfl, rt2, c2, h2⟩ := h1 v1 σ1 e1
  refine Exists.intro (6 * k + 1) (And.intro ⟨nI_1 _, by omega, by omega⟩ ?_)
  refine Exists.intro (6 * k + 2) (And.intro ⟨nI_add _ 2, by omega, by omega⟩ ?_)
  refine Exists.intro (6 * k + 3) (And.intro ⟨nI_add _ 3, by omega, by omega⟩ ?_)
  refine clG c2 (fun v2 σ2 e2 => ?_)
  obtain ⟨rfl, hj⟩ := h2 v2 σ2 e2
  refine br_t rfl ?_
  exact hx _ hj
theorem case_28 {L : Nat} {xs : Nat → Int32} {rt : Rt} {X : Kt} {k : Nat} {σ : Sg} (go : GoL L xs rt X) (hk : 6 * k + 6 ≤ L) (hL : L ≤ 3072) (h : J σ) (hx : ∀ σ', J σ' → X 1660 (lvL k) [] σ') : X 1110 (lvL k) [] σ := by
  obtain ⟨r, rt1, c1, h1⟩ := (P_best h (xs (6 * k + 1)) (xs (6 * k + 2))).G
  refine (go _ (zL_28 L xs)).1 [1660] 70 _ _ _ _ ?_
  refine Exists.intro (6 * k + 1) (And.intro ⟨nI_1 _, by omega, by omega⟩ ?_)
  refine Exists.intro (6 * k + 2) (And.intro ⟨nI_add _ 2, by omega, by omega⟩ ?_)
  refine clG c1 (fun v1 σ1 e1 => ?_)
  obtain ⟨rfl, rt2, c2, h2⟩ := h1 v1 σ1 e1
  refine Exists.intro (6 * k + 1) (And.intro ⟨nI_1 _, by omega, by omega⟩ ?_)
  refine Exists.intro (6 * k + 2) (And.intro ⟨nI_add _ 2, by omega, by omega⟩ ?_)
  refine clG c2 (fun v2 σ2 e2 => ?_)
  obtain ⟨rfl, hj⟩ := h2 v2 σ2 e2
  refine br_t rfl ?_
  exact hx _ hj
theorem case_29 {L : Nat} {xs : Nat → Int32} {rt : Rt} {X : Kt} {k : Nat} {σ : Sg} (go : GoL L xs rt X) (hk : 6 * k + 6 ≤ L) (hL : L ≤ 3072) (h : J σ) (hx : ∀ σ', J σ' → X 1660 (lvL k) [] σ') : X 1143 (lvL k) [] σ := by
  obtain ⟨r, rt1, c1, h1⟩ := (P_thief h (xs (6 * k + 1)) (xs (6 * k + 2))).G
  refine (go _ (zL_29 L xs)).1 [1660] 70 _ _ _ _ ?_
  refine Exists.intro (6 * k + 1) (And.intro ⟨nI_1 _, by omega, by omega⟩ ?_)
  refine Exists.intro (6 * k + 2) (And.intro ⟨nI_add _ 2, by omega, by omega⟩ ?_)
  refine clG c1 (fun v1 σ1 e1 => ?_)
  obtain ⟨rfl, rt2, c2, h2⟩ := h1 v1 σ1 e1
  refine Exists.intro (6 * k + 1) (And.intro ⟨nI_1 _, by omega, by omega⟩ ?_)
  refine Exists.intro (6 * k + 2) (And.intro ⟨nI_add _ 2, by omega, by omega⟩ ?_)
  refine clG c2 (fun v2 σ2 e2 => ?_)
  obtain ⟨rfl, hj⟩ := h2 v2 σ2 e2
  refine br_t rfl ?_
  exact hx _ hj
theorem case_30 {L : Nat} {xs : Nat → Int32} {rt : Rt} {X : Kt} {k : Nat} {σ : Sg} (go : GoL L xs rt X) (hk : 6 * k + 6 ≤ L) (hL : L ≤ 3072) (h : J σ) (hx : ∀ σ', J σ' → X 1660 (lvL k) [] σ') : X 1176 (lvL k) [] σ := by
  obtain ⟨r, rt1, c1, h1⟩ := (P_lots h (xs (6 * k + 1))).G
  refine (go _ (zL_30 L xs)).1 [1660] 70 _ _ _ _ ?_
  refine Exists.intro (6 * k + 1) (And.intro ⟨nI_1 _, by omega, by omega⟩ ?_)
  refine clG c1 (fun v1 σ1 e1 => ?_)
  obtain ⟨rfl, rt2, c2, h2⟩ := h1 v1 σ1 e1
  refine Exists.intro (6 * k + 1) (And.intro ⟨nI_1 _, by omega, by omega⟩ ?_)
  refine clG c2 (fun v2 σ2 e2 => ?_)
  obtain ⟨rfl, hj⟩ := h2 v2 σ2 e2
  refine br_t rfl ?_
  exact hx _ hj
theorem case_31 {L : Nat} {xs : Nat → Int32} {rt : Rt} {X : Kt} {k : Nat} {σ : Sg} (go : GoL L xs rt X) (hk : 6 * k + 6 ≤ L) (hL : L ≤ 3072) (h : J σ) (hx : ∀ σ', J σ' → X 1660 (lvL k) [] σ') : X 1199 (lvL k) [] σ := by
  obtain ⟨r, rt1, c1, h1⟩ := (P_seed h (xs (6 * k + 1))).G
  refine (go _ (zL_31 L xs)).1 [1660] 70 _ _ _ _ ?_
  refine Exists.intro (6 * k + 1) (And.intro ⟨nI_1 _, by omega, by omega⟩ ?_)
  refine clG c1 (fun v1 σ1 e1 => ?_)
  obtain ⟨rfl, rt2, c2, h2⟩ := h1 v1 σ1 e1
  refine Exists.intro (6 * k + 1) (And.intro ⟨nI_1 _, by omega, by omega⟩ ?_)
  refine clG c2 (fun v2 σ2 e2 => ?_)
  obtain ⟨rfl, hj⟩ := h2 v2 σ2 e2
  refine br_t rfl ?_
  exact hx _ hj
theorem case_32 {L : Nat} {xs : Nat → Int32} {rt : Rt} {X : Kt} {k : Nat} {σ : Sg} (go : GoL L xs rt X) (hk : 6 * k + 6 ≤ L) (hL : L ≤ 3072) (h : J σ) (hx : ∀ σ', J σ' → X 1660 (lvL k) [] σ') : X 1222 (lvL k) [] σ := by
  obtain ⟨r, rt1, c1, h1⟩ := (P_feed h (xs (6 * k + 1)) (xs (6 * k + 2))).G
  refine (go _ (zL_32 L xs)).1 [1660] 70 _ _ _ _ ?_
  refine Exists.intro (6 * k + 1) (And.intro ⟨nI_1 _, by omega, by omega⟩ ?_)
  refine Exists.intro (6 * k + 2) (And.intro ⟨nI_add _ 2, by omega, by omega⟩ ?_)
  refine clG c1 (fun v1 σ1 e1 => ?_)
  obtain ⟨rfl, rt2, c2, h2⟩ := h1 v1 σ1 e1
  refine Exists.intro (6 * k + 1) (And.intro ⟨nI_1 _, by omega, by omega⟩ ?_)
  refine Exists.intro (6 * k + 2) (And.intro ⟨nI_add _ 2, by omega, by omega⟩ ?_)
  refine clG c2 (fun v2 σ2 e2 => ?_)
  obtain ⟨rfl, hj⟩ := h2 v2 σ2 e2
  refine br_t rfl ?_
  exact hx _ hj
theorem case_33 {L : Nat} {xs : Nat → Int32} {rt : Rt} {X : Kt} {k : Nat} {σ : Sg} (go : GoL L xs rt X) (hk : 6 * k + 6 ≤ L) (hL : L ≤ 3072) (h : J σ) (hx : ∀ σ', J σ' → X 1660 (lvL k) [] σ') : X 1255 (lvL k) [] σ := by
  obtain ⟨r, rt1, c1, h1⟩ := (P_wipe h ).G
  refine (go _ (zL_33 L xs)).1 [1660] 70 _ _ _ _ ?_
  refine clG c1 (fun v1 σ1 e1 => ?_)
  obtain ⟨rfl, rt2, c2, h2⟩ := h1 v1 σ1 e1
  refine clG c2 (fun v2 σ2 e2 => ?_)
  obtain ⟨rfl, hj⟩ := h2 v2 σ2 e2
  refine br_t rfl ?_
  exact hx _ hj
theorem case_34 {L : Nat} {xs : Nat → Int32} {rt : Rt} {X : Kt} {k : Nat} {σ : Sg} (go : GoL L xs rt X) (hk : 6 * k + 6 ≤ L) (hL : L ≤ 3072) (h : J σ) (hx : ∀ σ', J σ' → X 1660 (lvL k) [] σ') : X 1268 (lvL k) [] σ := by
  obtain ⟨r, rt1, c1, h1⟩ := (P_text h )
  refine (go _ (zL_34 L xs)).1 [1660] 70 _ _ _ _ ?_
  refine clG c1 (fun v1 σ1 e1 => ?_)
  obtain ⟨rfl, rt2, c2, h2⟩ := h1 v1 σ1 e1
  refine clG c2 (fun v2 σ2 e2 => ?_)
  obtain ⟨rfl, hj⟩ := h2 v2 σ2 e2
  refine br_t rfl ?_
  exact hx _ hj
theorem case_35 {L : Nat} {xs : Nat → Int32} {rt : Rt} {X : Kt} {k : Nat} {σ : Sg} (go : GoL L xs rt X) (hk : 6 * k + 6 ≤ L) (hL : L ≤ 3072) (h : J σ) (hx : ∀ σ', J σ' → X 1660 (lvL k) [] σ') : X 1281 (lvL k) [] σ := by
  obtain ⟨r, rt1, c1, h1⟩ := (P_hold h (xs (6 * k + 1)) (xs (6 * k + 2))).G
  refine (go _ (zL_35 L xs)).1 [1660] 70 _ _ _ _ ?_
  refine Exists.intro (6 * k + 1) (And.intro ⟨nI_1 _, by omega, by omega⟩ ?_)
  refine Exists.intro (6 * k + 2) (And.intro ⟨nI_add _ 2, by omega, by omega⟩ ?_)
  refine clG c1 (fun v1 σ1 e1 => ?_)
  obtain ⟨rfl, rt2, c2, h2⟩ := h1 v1 σ1 e1
  refine Exists.intro (6 * k + 1) (And.intro ⟨nI_1 _, by omega, by omega⟩ ?_)
  refine Exists.intro (6 * k + 2) (And.intro ⟨nI_add _ 2, by omega, by omega⟩ ?_)
  refine clG c2 (fun v2 σ2 e2 => ?_)
  obtain ⟨rfl, hj⟩ := h2 v2 σ2 e2
  refine br_t rfl ?_
  exact hx _ hj
theorem case_36 {L : Nat} {xs : Nat → Int32} {rt : Rt} {X : Kt} {k : Nat} {σ : Sg} (go : GoL L xs rt X) (hk : 6 * k + 6 ≤ L) (hL : L ≤ 3072) (h : J σ) (hx : ∀ σ', J σ' → X 1660 (lvL k) [] σ') : X 1314 (lvL k) [] σ := by
  obtain ⟨r, rt1, c1, h1⟩ := (P_as h (xs (6 * k + 1)) (xs (6 * k + 2))).G
  refine (go _ (zL_36 L xs)).1 [1660] 70 _ _ _ _ ?_
  refine Exists.intro (6 * k + 1) (And.intro ⟨nI_1 _, by omega, by omega⟩ ?_)
  refine Exists.intro (6 * k + 2) (And.intro ⟨nI_add _ 2, by omega, by omega⟩ ?_)
  refine clG c1 (fun v1 σ1 e1 => ?_)
  obtain ⟨rfl, rt2, c2, h2⟩ := h1 v1 σ1 e1
  refine Exists.intro (6 * k + 1) (And.intro ⟨nI_1 _, by omega, by omega⟩ ?_)
  refine Exists.intro (6 * k + 2) (And.intro ⟨nI_add _ 2, by omega, by omega⟩ ?_)
  refine clG c2 (fun v2 σ2 e2 => ?_)
  obtain ⟨rfl, hj⟩ := h2 v2 σ2 e2
  refine br_t rfl ?_
  exact hx _ hj
theorem case_37 {L : Nat} {xs : Nat → Int32} {rt : Rt} {X : Kt} {k : Nat} {σ : Sg} (go : GoL L xs rt X) (hk : 6 * k + 6 ≤ L) (hL : L ≤ 3072) (h : J σ) (hx : ∀ σ', J σ' → X 1660 (lvL k) [] σ') : X 1347 (lvL k) [] σ := by
  obtain ⟨r, rt1, c1, h1⟩ := (P_sheet h (xs (6 * k + 1)) (xs (6 * k + 2)) (xs (6 * k + 3))).G
  refine (go _ (zL_37 L xs)).1 [1660] 70 _ _ _ _ ?_
  refine Exists.intro (6 * k + 1) (And.intro ⟨nI_1 _, by omega, by omega⟩ ?_)
  refine Exists.intro (6 * k + 2) (And.intro ⟨nI_add _ 2, by omega, by omega⟩ ?_)
  refine Exists.intro (6 * k + 3) (And.intro ⟨nI_add _ 3, by omega, by omega⟩ ?_)
  refine clG c1 (fun v1 σ1 e1 => ?_)
  obtain ⟨rfl, rt2, c2, h2⟩ := h1 v1 σ1 e1
  refine Exists.intro (6 * k + 1) (And.intro ⟨nI_1 _, by omega, by omega⟩ ?_)
  refine Exists.intro (6 * k + 2) (And.intro ⟨nI_add _ 2, by omega, by omega⟩ ?_)
  refine Exists.intro (6 * k + 3) (And.intro ⟨nI_add _ 3, by omega, by omega⟩ ?_)
  refine clG c2 (fun v2 σ2 e2 => ?_)
  obtain ⟨rfl, hj⟩ := h2 v2 σ2 e2
  refine br_t rfl ?_
  exact hx _ hj
theorem case_38 {L : Nat} {xs : Nat → Int32} {rt : Rt} {X : Kt} {k : Nat} {σ : Sg} (go : GoL L xs rt X) (hk : 6 * k + 6 ≤ L) (hL : L ≤ 3072) (h : J σ) (hx : ∀ σ', J σ' → X 1660 (lvL k) [] σ') : X 1390 (lvL k) [] σ := by
  obtain ⟨r, rt1, c1, h1⟩ := (P_write h (xs (6 * k + 1)) (xs (6 * k + 2)) (xs (6 * k + 3))).G
  refine (go _ (zL_38 L xs)).1 [1660] 70 _ _ _ _ ?_
  refine Exists.intro (6 * k + 1) (And.intro ⟨nI_1 _, by omega, by omega⟩ ?_)
  refine Exists.intro (6 * k + 2) (And.intro ⟨nI_add _ 2, by omega, by omega⟩ ?_)
  refine Exists.intro (6 * k + 3) (And.intro ⟨nI_add _ 3, by omega, by omega⟩ ?_)
  refine clG c1 (fun v1 σ1 e1 => ?_)
  obtain ⟨rfl, rt2, c2, h2⟩ := h1 v1 σ1 e1
  refine Exists.intro (6 * k + 1) (And.intro ⟨nI_1 _, by omega, by omega⟩ ?_)
  refine Exists.intro (6 * k + 2) (And.intro ⟨nI_add _ 2, by omega, by omega⟩ ?_)
  refine Exists.intro (6 * k + 3) (And.intro ⟨nI_add _ 3, by omega, by omega⟩ ?_)
  refine clG c2 (fun v2 σ2 e2 => ?_)
  obtain ⟨rfl, hj⟩ := h2 v2 σ2 e2
  refine br_t rfl ?_
  exact hx _ hj
theorem case_39 {L : Nat} {xs : Nat → Int32} {rt : Rt} {X : Kt} {k : Nat} {σ : Sg} (go : GoL L xs rt X) (hk : 6 * k + 6 ≤ L) (hL : L ≤ 3072) (h : J σ) (hx : ∀ σ', J σ' → X 1660 (lvL k) [] σ') : X 1433 (lvL k) [] σ := by
  obtain ⟨r, rt1, c1, h1⟩ := (P_copy h (xs (6 * k + 1)) (xs (6 * k + 2)) (xs (6 * k + 3)) (xs (6 * k + 4)) (xs (6 * k + 5))).G
  refine (go _ (zL_39 L xs)).1 [1660] 70 _ _ _ _ ?_
  refine Exists.intro (6 * k + 1) (And.intro ⟨nI_1 _, by omega, by omega⟩ ?_)
  refine Exists.intro (6 * k + 2) (And.intro ⟨nI_add _ 2, by omega, by omega⟩ ?_)
  refine Exists.intro (6 * k + 3) (And.intro ⟨nI_add _ 3, by omega, by omega⟩ ?_)
  refine Exists.intro (6 * k + 4) (And.intro ⟨nI_add _ 4, by omega, by omega⟩ ?_)
  refine Exists.intro (6 * k + 5) (And.intro ⟨nI_add _ 5, by omega, by omega⟩ ?_)
  refine clG c1 (fun v1 σ1 e1 => ?_)
  obtain ⟨rfl, rt2, c2, h2⟩ := h1 v1 σ1 e1
  refine Exists.intro (6 * k + 1) (And.intro ⟨nI_1 _, by omega, by omega⟩ ?_)
  refine Exists.intro (6 * k + 2) (And.intro ⟨nI_add _ 2, by omega, by omega⟩ ?_)
  refine Exists.intro (6 * k + 3) (And.intro ⟨nI_add _ 3, by omega, by omega⟩ ?_)
  refine Exists.intro (6 * k + 4) (And.intro ⟨nI_add _ 4, by omega, by omega⟩ ?_)
  refine Exists.intro (6 * k + 5) (And.intro ⟨nI_add _ 5, by omega, by omega⟩ ?_)
  refine clG c2 (fun v2 σ2 e2 => ?_)
  obtain ⟨rfl, hj⟩ := h2 v2 σ2 e2
  refine br_t rfl ?_
  exact hx _ hj
theorem case_40 {L : Nat} {xs : Nat → Int32} {rt : Rt} {X : Kt} {k : Nat} {σ : Sg} (go : GoL L xs rt X) (hk : 6 * k + 6 ≤ L) (hL : L ≤ 3072) (h : J σ) (hx : ∀ σ', J σ' → X 1660 (lvL k) [] σ') : X 1496 (lvL k) [] σ := by
  obtain ⟨r, rt1, c1, h1⟩ := (P_load h (xs (6 * k + 1))).G
  refine (go _ (zL_40 L xs)).1 [1660] 70 _ _ _ _ ?_
  refine Exists.intro (6 * k + 1) (And.intro ⟨nI_1 _, by omega, by omega⟩ ?_)
  refine clG c1 (fun v1 σ1 e1 => ?_)
  obtain ⟨rfl, rt2, c2, h2⟩ := h1 v1 σ1 e1
  refine Exists.intro (6 * k + 1) (And.intro ⟨nI_1 _, by omega, by omega⟩ ?_)
  refine clG c2 (fun v2 σ2 e2 => ?_)
  obtain ⟨rfl, hj⟩ := h2 v2 σ2 e2
  refine br_t rfl ?_
  exact hx _ hj
theorem case_41 {L : Nat} {xs : Nat → Int32} {rt : Rt} {X : Kt} {k : Nat} {σ : Sg} (go : GoL L xs rt X) (hk : 6 * k + 6 ≤ L) (hL : L ≤ 3072) (h : J σ) (hx : ∀ σ', J σ' → X 1660 (lvL k) [] σ') : X 1519 (lvL k) [] σ := by
  obtain ⟨r, rt1, c1, h1⟩ := (P_fit h (xs (6 * k + 1)))
  refine (go _ (zL_41 L xs)).1 [1660] 70 _ _ _ _ ?_
  refine Exists.intro (6 * k + 1) (And.intro ⟨nI_1 _, by omega, by omega⟩ ?_)
  refine clG c1 (fun v1 σ1 e1 => ?_)
  obtain ⟨rfl, rt2, c2, h2⟩ := h1 v1 σ1 e1
  refine Exists.intro (6 * k + 1) (And.intro ⟨nI_1 _, by omega, by omega⟩ ?_)
  refine clG c2 (fun v2 σ2 e2 => ?_)
  obtain ⟨rfl, hj⟩ := h2 v2 σ2 e2
  refine br_t rfl ?_
  exact hx _ hj
theorem case_42 {L : Nat} {xs : Nat → Int32} {rt : Rt} {X : Kt} {k : Nat} {σ : Sg} (go : GoL L xs rt X) (hk : 6 * k + 6 ≤ L) (hL : L ≤ 3072) (h : J σ) (hx : ∀ σ', J σ' → X 1660 (lvL k) [] σ') : X 1542 (lvL k) [] σ := by
  obtain ⟨r, rt1, c1, h1⟩ := (P_judge h (xs (6 * k + 1)) (xs (6 * k + 2))).G
  refine (go _ (zL_42 L xs)).1 [1660] 70 _ _ _ _ ?_
  refine Exists.intro (6 * k + 1) (And.intro ⟨nI_1 _, by omega, by omega⟩ ?_)
  refine Exists.intro (6 * k + 2) (And.intro ⟨nI_add _ 2, by omega, by omega⟩ ?_)
  refine clG c1 (fun v1 σ1 e1 => ?_)
  obtain ⟨rfl, rt2, c2, h2⟩ := h1 v1 σ1 e1
  refine Exists.intro (6 * k + 1) (And.intro ⟨nI_1 _, by omega, by omega⟩ ?_)
  refine Exists.intro (6 * k + 2) (And.intro ⟨nI_add _ 2, by omega, by omega⟩ ?_)
  refine clG c2 (fun v2 σ2 e2 => ?_)
  obtain ⟨rfl, hj⟩ := h2 v2 σ2 e2
  refine br_t rfl ?_
  exact hx _ hj
theorem case_43 {L : Nat} {xs : Nat → Int32} {rt : Rt} {X : Kt} {k : Nat} {σ : Sg} (go : GoL L xs rt X) (hk : 6 * k + 6 ≤ L) (hL : L ≤ 3072) (h : J σ) (hx : ∀ σ', J σ' → X 1660 (lvL k) [] σ') : X 1575 (lvL k) [] σ := by
  obtain ⟨r, rt1, c1, h1⟩ := (P_image h ).G
  refine (go _ (zL_43 L xs)).1 [1660] 70 _ _ _ _ ?_
  refine clG c1 (fun v1 σ1 e1 => ?_)
  obtain ⟨rfl, rt2, c2, h2⟩ := h1 v1 σ1 e1
  refine clG c2 (fun v2 σ2 e2 => ?_)
  obtain ⟨rfl, hj⟩ := h2 v2 σ2 e2
  refine br_t rfl ?_
  exact hx _ hj
theorem case_44 {L : Nat} {xs : Nat → Int32} {rt : Rt} {X : Kt} {k : Nat} {σ : Sg} (go : GoL L xs rt X) (hk : 6 * k + 6 ≤ L) (hL : L ≤ 3072) (h : J σ) (hx : ∀ σ', J σ' → X 1660 (lvL k) [] σ') : X 1588 (lvL k) [] σ := by
  obtain ⟨r, rt1, c1, h1⟩ := (P_undo h ).G
  refine (go _ (zL_44 L xs)).1 [1660] 70 _ _ _ _ ?_
  refine clG c1 (fun v1 σ1 e1 => ?_)
  obtain ⟨rfl, rt2, c2, h2⟩ := h1 v1 σ1 e1
  refine clG c2 (fun v2 σ2 e2 => ?_)
  obtain ⟨rfl, hj⟩ := h2 v2 σ2 e2
  refine br_t rfl ?_
  exact hx _ hj
theorem case_45 {L : Nat} {xs : Nat → Int32} {rt : Rt} {X : Kt} {k : Nat} {σ : Sg} (go : GoL L xs rt X) (hk : 6 * k + 6 ≤ L) (hL : L ≤ 3072) (h : J σ) (hx : ∀ σ', J σ' → X 1660 (lvL k) [] σ') : X 1601 (lvL k) [] σ := by
  obtain ⟨r, rt1, c1, h1⟩ := (P_tear h ).G
  refine (go _ (zL_45 L xs)).1 [1660] 70 _ _ _ _ ?_
  refine clG c1 (fun v1 σ1 e1 => ?_)
  obtain ⟨rfl, rt2, c2, h2⟩ := h1 v1 σ1 e1
  refine clG c2 (fun v2 σ2 e2 => ?_)
  obtain ⟨rfl, hj⟩ := h2 v2 σ2 e2
  refine br_t rfl ?_
  exact hx _ hj
theorem case_46 {L : Nat} {xs : Nat → Int32} {rt : Rt} {X : Kt} {k : Nat} {σ : Sg} (go : GoL L xs rt X) (hk : 6 * k + 6 ≤ L) (hL : L ≤ 3072) (h : J σ) (hx : ∀ σ', J σ' → X 1660 (lvL k) [] σ') : X 1614 (lvL k) [] σ := by
  obtain ⟨r, rt1, c1, h1⟩ := (P_count h (xs (6 * k + 1))).G
  refine (go _ (zL_46 L xs)).1 [1660] 70 _ _ _ _ ?_
  refine Exists.intro (6 * k + 1) (And.intro ⟨nI_1 _, by omega, by omega⟩ ?_)
  refine clG c1 (fun v1 σ1 e1 => ?_)
  obtain ⟨rfl, rt2, c2, h2⟩ := h1 v1 σ1 e1
  refine Exists.intro (6 * k + 1) (And.intro ⟨nI_1 _, by omega, by omega⟩ ?_)
  refine clG c2 (fun v2 σ2 e2 => ?_)
  obtain ⟨rfl, hj⟩ := h2 v2 σ2 e2
  refine br_t rfl ?_
  exact hx _ hj
theorem case_47 {L : Nat} {xs : Nat → Int32} {rt : Rt} {X : Kt} {k : Nat} {σ : Sg} (go : GoL L xs rt X) (hk : 6 * k + 6 ≤ L) (hL : L ≤ 3072) (h : J σ) (hx : ∀ σ', J σ' → X 1660 (lvL k) [] σ') : X 1637 (lvL k) [] σ := by
  obtain ⟨r, rt1, c1, h1⟩ := (P_status h (xs (6 * k + 1))).G
  refine (go _ (zL_47 L xs)).1 [1660] 70 _ _ _ _ ?_
  refine Exists.intro (6 * k + 1) (And.intro ⟨nI_1 _, by omega, by omega⟩ ?_)
  refine clG c1 (fun v1 σ1 e1 => ?_)
  obtain ⟨rfl, rt2, c2, h2⟩ := h1 v1 σ1 e1
  refine Exists.intro (6 * k + 1) (And.intro ⟨nI_1 _, by omega, by omega⟩ ?_)
  refine clG c2 (fun v2 σ2 e2 => ?_)
  obtain ⟨rfl, hj⟩ := h2 v2 σ2 e2
  refine br_t rfl ?_
  exact hx _ hj
/-- the tail: on to the next six ints -/
theorem case_t {L : Nat} {xs : Nat → Int32} {rt : Rt} {X : Kt} {k : Nat} {σ : Sg} (go : GoL L xs rt X) (hx : X 18 (lvL (k + 1)) [] σ) : X 1660 (lvL k) [] σ := by
  have e : nI (6 * (k + 1)) = nI (6 * k) + 6 := (nI_add (6 * k) 6).symm
  unfold lvL at hx
  rw [e] at hx
  refine (go _ (zL_t L xs)).1 [18] 10 _ _ _ _ ?_
  exact hx
/-- the head: the end, or the switch -/
theorem case_h {L : Nat} {xs : Nat → Int32} {rt : Rt} {X : Kt} {k : Nat} {σ : Sg} (go : GoL L xs rt X) (hL : L ≤ 3072) (hkL : k ≤ 1000) (h : J σ) (hend : X 1666 (lvL k) [] σ) (hx : 6 * k + 6 ≤ L → ∀ σ', J σ' → X 1660 (lvL k) [] σ') : X 18 (lvL k) [] σ := by
  refine (go _ (zL_h L xs)).1 [1660, 1666, 240, 273, 322, 345, 378, 411, 454, 487, 520, 553, 576, 589, 622, 655, 678, 691, 724, 747, 770, 803, 846, 879, 912, 935, 958, 991, 1024, 1067, 1110, 1143, 1176, 1199, 1222, 1255, 1268, 1281, 1314, 1347, 1390, 1433, 1496, 1519, 1542, 1575, 1588, 1601, 1614, 1637] 70 _ _ _ _ ?_
  refine And.intro (fun _ => show X 1666 (lvL k) [] σ from hend) (fun hlt => ?_)
  have hk : 6 * k + 6 ≤ L := law_le hL hkL hlt
  refine Exists.intro (6 * k) (And.intro ⟨rfl, by omega, by omega⟩ ?_)

  refine And.intro (fun _ => show X 240 (lvL k) [] σ from case_0 go hk hL h (hx hk)) (fun _ => ?_)
  refine And.intro (fun _ => show X 273 (lvL k) [] σ from case_1 go hk hL h (hx hk)) (fun _ => ?_)
  refine And.intro (fun _ => show X 322 (lvL k) [] σ from case_2 go hk hL h (hx hk)) (fun _ => ?_)
  refine And.intro (fun _ => show X 345 (lvL k) [] σ from case_3 go hk hL h (hx hk)) (fun _ => ?_)
  refine And.intro (fun _ => show X 378 (lvL k) [] σ from case_4 go hk hL h (hx hk)) (fun _ => ?_)
  refine And.intro (fun _ => show X 411 (lvL k) [] σ from case_5 go hk hL h (hx hk)) (fun _ => ?_)
  refine And.intro (fun _ => show X 454 (lvL k) [] σ from case_6 go hk hL h (hx hk)) (fun _ => ?_)
  refine And.intro (fun _ => show X 487 (lvL k) [] σ from case_7 go hk hL h (hx hk)) (fun _ => ?_)
  refine And.intro (fun _ => show X 520 (lvL k) [] σ from case_8 go hk hL h (hx hk)) (fun _ => ?_)
  refine And.intro (fun _ => show X 553 (lvL k) [] σ from case_9 go hk hL h (hx hk)) (fun _ => ?_)
  refine And.intro (fun _ => show X 576 (lvL k) [] σ from case_10 go hk hL h (hx hk)) (fun _ => ?_)
  refine And.intro (fun _ => show X 589 (lvL k) [] σ from case_11 go hk hL h (hx hk)) (fun _ => ?_)
  refine And.intro (fun _ => show X 622 (lvL k) [] σ from case_12 go hk hL h (hx hk)) (fun _ => ?_)
  refine And.intro (fun _ => show X 655 (lvL k) [] σ from case_13 go hk hL h (hx hk)) (fun _ => ?_)
  refine And.intro (fun _ => show X 678 (lvL k) [] σ from case_14 go hk hL h (hx hk)) (fun _ => ?_)
  refine And.intro (fun _ => show X 691 (lvL k) [] σ from case_15 go hk hL h (hx hk)) (fun _ => ?_)
  refine And.intro (fun _ => show X 724 (lvL k) [] σ from case_16 go hk hL h (hx hk)) (fun _ => ?_)
  refine And.intro (fun _ => show X 747 (lvL k) [] σ from case_17 go hk hL h (hx hk)) (fun _ => ?_)
  refine And.intro (fun _ => show X 770 (lvL k) [] σ from case_18 go hk hL h (hx hk)) (fun _ => ?_)
  refine And.intro (fun _ => show X 803 (lvL k) [] σ from case_19 go hk hL h (hx hk)) (fun _ => ?_)
  refine And.intro (fun _ => show X 846 (lvL k) [] σ from case_20 go hk hL h (hx hk)) (fun _ => ?_)
  refine And.intro (fun _ => show X 879 (lvL k) [] σ from case_21 go hk hL h (hx hk)) (fun _ => ?_)
  refine And.intro (fun _ => show X 912 (lvL k) [] σ from case_22 go hk hL h (hx hk)) (fun _ => ?_)
  refine And.intro (fun _ => show X 935 (lvL k) [] σ from case_23 go hk hL h (hx hk)) (fun _ => ?_)
  refine And.intro (fun _ => show X 958 (lvL k) [] σ from case_24 go hk hL h (hx hk)) (fun _ => ?_)
  refine And.intro (fun _ => show X 991 (lvL k) [] σ from case_25 go hk hL h (hx hk)) (fun _ => ?_)
  refine And.intro (fun _ => show X 1024 (lvL k) [] σ from case_26 go hk hL h (hx hk)) (fun _ => ?_)
  refine And.intro (fun _ => show X 1067 (lvL k) [] σ from case_27 go hk hL h (hx hk)) (fun _ => ?_)
  refine And.intro (fun _ => show X 1110 (lvL k) [] σ from case_28 go hk hL h (hx hk)) (fun _ => ?_)
  refine And.intro (fun _ => show X 1143 (lvL k) [] σ from case_29 go hk hL h (hx hk)) (fun _ => ?_)
  refine And.intro (fun _ => show X 1176 (lvL k) [] σ from case_30 go hk hL h (hx hk)) (fun _ => ?_)
  refine And.intro (fun _ => show X 1199 (lvL k) [] σ from case_31 go hk hL h (hx hk)) (fun _ => ?_)
  refine And.intro (fun _ => show X 1222 (lvL k) [] σ from case_32 go hk hL h (hx hk)) (fun _ => ?_)
  refine And.intro (fun _ => show X 1255 (lvL k) [] σ from case_33 go hk hL h (hx hk)) (fun _ => ?_)
  refine And.intro (fun _ => show X 1268 (lvL k) [] σ from case_34 go hk hL h (hx hk)) (fun _ => ?_)
  refine And.intro (fun _ => show X 1281 (lvL k) [] σ from case_35 go hk hL h (hx hk)) (fun _ => ?_)
  refine And.intro (fun _ => show X 1314 (lvL k) [] σ from case_36 go hk hL h (hx hk)) (fun _ => ?_)
  refine And.intro (fun _ => show X 1347 (lvL k) [] σ from case_37 go hk hL h (hx hk)) (fun _ => ?_)
  refine And.intro (fun _ => show X 1390 (lvL k) [] σ from case_38 go hk hL h (hx hk)) (fun _ => ?_)
  refine And.intro (fun _ => show X 1433 (lvL k) [] σ from case_39 go hk hL h (hx hk)) (fun _ => ?_)
  refine And.intro (fun _ => show X 1496 (lvL k) [] σ from case_40 go hk hL h (hx hk)) (fun _ => ?_)
  refine And.intro (fun _ => show X 1519 (lvL k) [] σ from case_41 go hk hL h (hx hk)) (fun _ => ?_)
  refine And.intro (fun _ => show X 1542 (lvL k) [] σ from case_42 go hk hL h (hx hk)) (fun _ => ?_)
  refine And.intro (fun _ => show X 1575 (lvL k) [] σ from case_43 go hk hL h (hx hk)) (fun _ => ?_)
  refine And.intro (fun _ => show X 1588 (lvL k) [] σ from case_44 go hk hL h (hx hk)) (fun _ => ?_)
  refine And.intro (fun _ => show X 1601 (lvL k) [] σ from case_45 go hk hL h (hx hk)) (fun _ => ?_)
  refine And.intro (fun _ => show X 1614 (lvL k) [] σ from case_46 go hk hL h (hx hk)) (fun _ => ?_)
  refine And.intro (fun _ => show X 1637 (lvL k) [] σ from case_47 go hk hL h (hx hk)) (fun _ => ?_)
  show X 1660 (lvL k) [] σ
  exact hx hk σ h
theorem law_loopA {L : Nat} {xs : Nat → Int32} {rt : Rt} {X : Kt} (go : GoL L xs rt X) (hL : L ≤ 3072) (hend : ∀ k σ, X 1666 (lvL k) [] σ) : ∀ (d k : Nat) (σ : Sg), L ≤ 6 * k + d → k ≤ 600 → J σ → X 18 (lvL k) [] σ := by
  intro d
  induction d with
  | zero =>
    intro k σ hd hk h
    exact case_h go hL (by omega) h (hend k σ) (fun q => absurd q (by omega))
  | succ d ih =>
    intro k σ hd hk h
    exact case_h go hL (by omega) h (hend k σ) (fun q σ' h' => case_t go (ih (k + 1) σ' (by omega) (by omega) h'))
