/-! SQUARE's methods, by program (sq.py): the contracts at the cells of now (1) and trial (10) -/
theorem idx12 {p : Nat} (hp : p < 1000) : nI p + 1 - (nI p + 1) / 12 * 12 = nI ((p + 1) % 12) := by
  rw [nI_1]
  exact nI_m12 (by omega)

theorem ct_twofold_1 {p : Nat} (hp : p < 12) {pv : Int32} (e : pv = nI p) (σ : Sg) : Ct mX2_twofoldVisits [.ref 1, .int pv] σ (Ex (some (.int (Tq 1 σ 1 p + Tq 1 σ 1 ((p + 1) % 12)))) σ) := by
  subst e
  refine Ct.of (by decide +kernel) zX2_twofoldVisits (Nat.le_of_ble_eq_true rfl) (by decide) (fun X go => ?_)
  refine go.1 [] 30 _ _ _ _ ?_
  refine Exists.intro p (And.intro ⟨rfl, hp, by omega⟩ ?_)
  refine And.intro (by decide) ?_
  refine Exists.intro ((p + 1) % 12) (And.intro ⟨idx12 (by omega), Nat.mod_lt _ (by decide), by omega⟩ ?_)
  exact And.intro rfl rfl
theorem ct_offerAt_1 (kd : Int32) {p : Nat} (hp : p < 12) {pv : Int32} (e : pv = nI p) (σ : Sg) : Ct mX2_offerAt [.ref 1, .int kd, .int pv] σ (Ex (some (.int (offT (Tq 1 σ) kd p))) σ) := by
  subst e
  refine Ct.of (by decide +kernel) zX2_offerAt (Nat.le_of_ble_eq_true rfl) (by decide) (fun X go => ?_)
  refine go.1 [] 30 _ _ _ _ ?_
  refine And.intro (fun h => ?_) (fun h1 => ?_)
  · subst h
    refine cl (ct_twofold_1 hp rfl σ) ?_
    exact And.intro rfl rfl
  refine And.intro (fun h => ?_) (fun h2 => ?_)
  · subst h
    refine Exists.intro p (And.intro ⟨rfl, hp, by omega⟩ ?_)
    exact And.intro rfl rfl
  refine And.intro (fun h => ?_) (fun h3 => ?_)
  · subst h
    refine Exists.intro p (And.intro ⟨rfl, hp, by omega⟩ ?_)
    refine And.intro (fun (h : Tq 1 σ 2 p = 1) => ?_) (fun (h : ¬ Tq 1 σ 2 p = 1) => ?_)
    · refine cl (ct_twofold_1 hp rfl σ) ?_
      refine And.intro ?_ rfl
      have e : offT (Tq 1 σ) 3 p = Tq 1 σ 1 p + Tq 1 σ 1 ((p + 1) % 12) := by
        unfold offT
        rw [if_neg (by decide), if_pos rfl, if_pos h]
      rw [e]
    · refine And.intro ?_ rfl
      have e : offT (Tq 1 σ) 3 p = 0 := by
        unfold offT
        rw [if_neg (by decide), if_pos rfl, if_neg h]
      rw [e]
  refine And.intro (fun h => ?_) (fun h4 => ?_)
  · subst h
    refine Exists.intro p (And.intro ⟨rfl, hp, by omega⟩ ?_)
    exact And.intro rfl rfl
  refine And.intro (fun h => ?_) (fun h5 => ?_)
  · subst h
    refine Exists.intro p (And.intro ⟨rfl, hp, by omega⟩ ?_)
    refine And.intro (by decide) ?_
    exact And.intro rfl rfl
  refine And.intro (fun h => ?_) (fun h6 => ?_)
  · subst h
    refine Exists.intro p (And.intro ⟨rfl, hp, by omega⟩ ?_)
    refine And.intro (by decide) ?_
    refine And.intro (fun (h : nI p = Tq 1 σ 0 8) => ?_) (fun (h : ¬ nI p = Tq 1 σ 0 8) => ?_)
    · refine And.intro ?_ rfl
      have e : offT (Tq 1 σ) 6 p = Tq 1 σ 1 p / 2 * 3 := by
        unfold offT
        rw [if_neg (by decide), if_neg (by decide), if_neg (by decide), if_pos rfl, if_pos h]
      rw [e]
      rfl
    · refine And.intro ?_ rfl
      have e : offT (Tq 1 σ) 6 p = Tq 1 σ 1 p / 2 * 1 := by
        unfold offT
        rw [if_neg (by decide), if_neg (by decide), if_neg (by decide), if_pos rfl, if_neg h]
      rw [e]
      rfl
  · refine Exists.intro p (And.intro ⟨rfl, hp, by omega⟩ ?_)
    refine And.intro ?_ rfl
    have e : offT (Tq 1 σ) kd p = Tq 1 σ 1 p := by
      unfold offT
      rw [if_neg h1, if_neg h3, if_neg h5, if_neg h6]
    rw [e]
    rfl
theorem ct_priceOf_1 {k a : Nat} (hk : k < 8) {σ : Sg} (ha : a < 7) (e : Tq 1 σ 3 k = nI a) : Ct mX2_priceOf [.ref 1, .int (nI k)] σ (Ex (some (.int (pR a))) σ) := by
  refine Ct.of (by decide +kernel) zX2_priceOf (Nat.le_of_ble_eq_true rfl) (by decide) (fun X go => ?_)
  refine go.1 [] 30 _ _ _ _ ?_
  refine Exists.intro k (And.intro ⟨rfl, hk, by omega⟩ ?_)
  refine Exists.intro a (And.intro ⟨e, ha, by omega⟩ ?_)
  exact And.intro rfl rfl
theorem ct_wouldGo_1 {k : Nat} (hk : k < 8) (σ : Sg) : Ct mX2_wouldGo [.ref 1, .int (nI k)] σ (Ex (some (.int (if goT (Tq 1 σ) k = true then 1 else 0))) σ) := by
  refine Ct.of (by decide +kernel) zX2_wouldGo (Nat.le_of_ble_eq_true rfl) (by decide) (fun X go => ?_)
  refine go.1 [] 40 _ _ _ _ ?_
  refine Exists.intro k (And.intro ⟨rfl, hk, by omega⟩ ?_)
  refine And.intro (fun (h2 : Tq 1 σ 3 k = 2) => ?_) (fun (h2 : ¬ Tq 1 σ 3 k = 2) => ?_)
  · refine And.intro (by decide) ?_
    refine And.intro (fun (h : rm (Tq 1 σ 0 10) 2 = 0) => ?_) (fun (h : ¬ rm (Tq 1 σ 0 10) 2 = 0) => ?_)
    · refine And.intro (Or.inr rfl) (And.intro ?_ rfl)
      have e : goT (Tq 1 σ) k = true := by unfold goT; rw [if_pos h2]; exact decide_eq_true h
      rw [e]; rfl
    · refine And.intro (Or.inl rfl) (And.intro ?_ rfl)
      have e : goT (Tq 1 σ) k = false := by unfold goT; rw [if_pos h2]; exact decide_eq_false h
      rw [e]; rfl
  refine And.intro (fun (h4 : Tq 1 σ 3 k = 4) => ?_) (fun (h4 : ¬ Tq 1 σ 3 k = 4) => ?_)
  · refine And.intro (by decide) ?_
    refine And.intro (fun (h : rm (Tq 1 σ 0 10) 2 = 0) => ?_) (fun (h : ¬ rm (Tq 1 σ 0 10) 2 = 0) => ?_)
    · refine And.intro (by decide) ?_
      refine And.intro (fun (h3 : rm (Tq 1 σ 0 10) 3 = 0) => ?_) (fun (h3 : ¬ rm (Tq 1 σ 0 10) 3 = 0) => ?_)
      · refine And.intro (Or.inr rfl) (And.intro ?_ rfl)
        have e : goT (Tq 1 σ) k = true := by unfold goT; rw [if_neg h2, if_pos h4]; exact Bool.and_eq_true_iff.mpr ⟨decide_eq_true h, decide_eq_true h3⟩
        rw [e]; rfl
      · refine And.intro (Or.inl rfl) (And.intro ?_ rfl)
        have e : goT (Tq 1 σ) k = false := by unfold goT; rw [if_neg h2, if_pos h4]; exact Bool.and_eq_false_iff.mpr (Or.inr (decide_eq_false h3))
        rw [e]; rfl
    · refine And.intro (Or.inl rfl) (And.intro ?_ rfl)
      have e : goT (Tq 1 σ) k = false := by unfold goT; rw [if_neg h2, if_pos h4]; exact Bool.and_eq_false_iff.mpr (Or.inl (decide_eq_false h))
      rw [e]; rfl
  · refine And.intro (Or.inr rfl) (And.intro ?_ rfl)
    have e : goT (Tq 1 σ) k = true := by unfold goT; rw [if_neg h2, if_neg h4]
    rw [e]; rfl
theorem ct_sellAll_1 {n h : Nat} {T : Sg} (v : VT n h T) (σ : Sg) : Ct mX2_sellAll [.ref 1] (putSq 1 T σ) (Ex (some (.int (saleN T n))) (putSq 1 (sellN T n) σ)) := by
  have hn8 := v.1.1
  have hn := v.1.2.2.1
  refine Ct.of (by decide +kernel) zX2_sellAll (Nat.le_of_ble_eq_true rfl) (by decide) (fun X go => ?_)
  have L : ∀ d k, k + d = n → X 4 [(0, .ref 1), (1, .int (saleN T k)), (2, .int (nI k))] [] (putSq 1 (sellN T k) σ) := by
    intro d
    induction d with
    | zero =>
      intro k hk
      have hk : k = n := by omega
      subst hk
      refine go.1 [4] 20 _ _ _ _ ?_
      refine br_t (show sellN T k 0 9 ≤ nI k by rw [sellN_row (by decide) (by decide) (by decide), hn]; exact nI_le (Nat.le_refl _) (by omega)) ?_
      exact And.intro rfl rfl
    | succ d ih =>
      intro k hk
      have hk8 : k < 8 := by omega
      have e4 : sellN T k 4 k = nI (pl T k) := by rw [sellN_row (by decide) (by decide) (by decide)]; exact (VTpl v hk8).1
      have e4' : pl (sellN T k) k = pl T k := by unfold pl; rw [sellN_row (by decide) (by decide) (by decide)]
      obtain ⟨a, ha, ea⟩ := v.2.2.1 k hk8
      have ea : sellN T k 3 k = nI a := by rw [sellN_row (by decide) (by decide) (by decide)]; exact ea
      have eo : offT (Tq 1 (putSq 1 (sellN T k) σ)) (sellN T k 3 k) (pl T k) = offT (sellN T k) (sellN T k 3 k) (pl (sellN T k) k) := by rw [e4']; exact offT_cong rfl rfl rfl _ _
      have ep : pR a = priT (sellN T k 3 k) := by rw [ea]; unfold priT; rw [nI_clamp (by omega)]
      have co := ct_offerAt_1 (sellN T k 3 k) (VTpl v hk8).2 e4 (putSq 1 (sellN T k) σ)
      rw [eo] at co
      have cp := ct_priceOf_1 (σ := up2 (up2 (putSq 1 (sellN T k) σ) (1 + 5) k (sellN T k 5 k - selT (sellN T k) k)) (1 + 7) k (sellN T k 7 k + selT (sellN T k) k)) hk8 ha ea
      rw [ep] at cp
      have es : up2 (up2 (up2 (putSq 1 (sellN T k) σ) (1 + 5) k (sellN T k 5 k - selT (sellN T k) k)) (1 + 7) k (sellN T k 7 k + selT (sellN T k) k)) (1 + 6) k (sellN T k 6 k + selT (sellN T k) k * priT (sellN T k 3 k)) = putSq 1 (sellN T (k + 1)) σ := by
        show upr (upr (upr (putSq 1 (sellN T k) σ) (1 + 5) (upd (sellN T k 5) k _)) (1 + 7) (upd (sellN T k 7) k _)) (1 + 6) (upd (sellN T k 6) k _) = _
        rw [putSq_upr (by decide), putSq_upr (by decide), putSq_upr (by decide)]
        rfl
      have ihk := ih (k + 1) (by omega)
      rw [nI_succ, ← es] at ihk
      refine go.1 [4] 60 _ _ _ _ ?_
      refine br_f (show ¬ sellN T k 0 9 ≤ nI k by rw [sellN_row (by decide) (by decide) (by decide), hn]; exact nI_ge (by omega) (by omega)) ?_
      refine Exists.intro k (And.intro ⟨rfl, hk8, by omega⟩ ?_)
      refine Exists.intro k (And.intro ⟨rfl, hk8, by omega⟩ ?_)
      refine Exists.intro k (And.intro ⟨rfl, hk8, by omega⟩ ?_)
      refine cl co ?_
      refine Exists.intro k (And.intro ⟨rfl, hk8, by omega⟩ ?_)
      refine Exists.intro k (And.intro ⟨rfl, hk8, by omega⟩ ?_)
      refine Exists.intro k (And.intro ⟨rfl, hk8, by omega⟩ ?_)
      refine Exists.intro k (And.intro ⟨rfl, hk8, by omega⟩ ?_)
      refine Exists.intro k (And.intro ⟨rfl, hk8, by omega⟩ ?_)
      refine cl cp ?_
      refine Exists.intro k (And.intro ⟨rfl, hk8, by omega⟩ ?_)
      refine go.2 [0, 1, 2] _ _ _ _ ?_
      exact ihk
  exact go.1 [4] 20 _ _ _ _ (L n 0 (by omega))

theorem ct_twofold_10 {p : Nat} (hp : p < 12) {pv : Int32} (e : pv = nI p) (σ : Sg) : Ct mX2_twofoldVisits [.ref 10, .int pv] σ (Ex (some (.int (Tq 10 σ 1 p + Tq 10 σ 1 ((p + 1) % 12)))) σ) := by
  subst e
  refine Ct.of (by decide +kernel) zX2_twofoldVisits (Nat.le_of_ble_eq_true rfl) (by decide) (fun X go => ?_)
  refine go.1 [] 30 _ _ _ _ ?_
  refine Exists.intro p (And.intro ⟨rfl, hp, by omega⟩ ?_)
  refine And.intro (by decide) ?_
  refine Exists.intro ((p + 1) % 12) (And.intro ⟨idx12 (by omega), Nat.mod_lt _ (by decide), by omega⟩ ?_)
  exact And.intro rfl rfl
theorem ct_offerAt_10 (kd : Int32) {p : Nat} (hp : p < 12) {pv : Int32} (e : pv = nI p) (σ : Sg) : Ct mX2_offerAt [.ref 10, .int kd, .int pv] σ (Ex (some (.int (offT (Tq 10 σ) kd p))) σ) := by
  subst e
  refine Ct.of (by decide +kernel) zX2_offerAt (Nat.le_of_ble_eq_true rfl) (by decide) (fun X go => ?_)
  refine go.1 [] 30 _ _ _ _ ?_
  refine And.intro (fun h => ?_) (fun h1 => ?_)
  · subst h
    refine cl (ct_twofold_10 hp rfl σ) ?_
    exact And.intro rfl rfl
  refine And.intro (fun h => ?_) (fun h2 => ?_)
  · subst h
    refine Exists.intro p (And.intro ⟨rfl, hp, by omega⟩ ?_)
    exact And.intro rfl rfl
  refine And.intro (fun h => ?_) (fun h3 => ?_)
  · subst h
    refine Exists.intro p (And.intro ⟨rfl, hp, by omega⟩ ?_)
    refine And.intro (fun (h : Tq 10 σ 2 p = 1) => ?_) (fun (h : ¬ Tq 10 σ 2 p = 1) => ?_)
    · refine cl (ct_twofold_10 hp rfl σ) ?_
      refine And.intro ?_ rfl
      have e : offT (Tq 10 σ) 3 p = Tq 10 σ 1 p + Tq 10 σ 1 ((p + 1) % 12) := by
        unfold offT
        rw [if_neg (by decide), if_pos rfl, if_pos h]
      rw [e]
    · refine And.intro ?_ rfl
      have e : offT (Tq 10 σ) 3 p = 0 := by
        unfold offT
        rw [if_neg (by decide), if_pos rfl, if_neg h]
      rw [e]
  refine And.intro (fun h => ?_) (fun h4 => ?_)
  · subst h
    refine Exists.intro p (And.intro ⟨rfl, hp, by omega⟩ ?_)
    exact And.intro rfl rfl
  refine And.intro (fun h => ?_) (fun h5 => ?_)
  · subst h
    refine Exists.intro p (And.intro ⟨rfl, hp, by omega⟩ ?_)
    refine And.intro (by decide) ?_
    exact And.intro rfl rfl
  refine And.intro (fun h => ?_) (fun h6 => ?_)
  · subst h
    refine Exists.intro p (And.intro ⟨rfl, hp, by omega⟩ ?_)
    refine And.intro (by decide) ?_
    refine And.intro (fun (h : nI p = Tq 10 σ 0 8) => ?_) (fun (h : ¬ nI p = Tq 10 σ 0 8) => ?_)
    · refine And.intro ?_ rfl
      have e : offT (Tq 10 σ) 6 p = Tq 10 σ 1 p / 2 * 3 := by
        unfold offT
        rw [if_neg (by decide), if_neg (by decide), if_neg (by decide), if_pos rfl, if_pos h]
      rw [e]
      rfl
    · refine And.intro ?_ rfl
      have e : offT (Tq 10 σ) 6 p = Tq 10 σ 1 p / 2 * 1 := by
        unfold offT
        rw [if_neg (by decide), if_neg (by decide), if_neg (by decide), if_pos rfl, if_neg h]
      rw [e]
      rfl
  · refine Exists.intro p (And.intro ⟨rfl, hp, by omega⟩ ?_)
    refine And.intro ?_ rfl
    have e : offT (Tq 10 σ) kd p = Tq 10 σ 1 p := by
      unfold offT
      rw [if_neg h1, if_neg h3, if_neg h5, if_neg h6]
    rw [e]
    rfl
theorem ct_priceOf_10 {k a : Nat} (hk : k < 8) {σ : Sg} (ha : a < 7) (e : Tq 10 σ 3 k = nI a) : Ct mX2_priceOf [.ref 10, .int (nI k)] σ (Ex (some (.int (pR a))) σ) := by
  refine Ct.of (by decide +kernel) zX2_priceOf (Nat.le_of_ble_eq_true rfl) (by decide) (fun X go => ?_)
  refine go.1 [] 30 _ _ _ _ ?_
  refine Exists.intro k (And.intro ⟨rfl, hk, by omega⟩ ?_)
  refine Exists.intro a (And.intro ⟨e, ha, by omega⟩ ?_)
  exact And.intro rfl rfl
theorem ct_wouldGo_10 {k : Nat} (hk : k < 8) (σ : Sg) : Ct mX2_wouldGo [.ref 10, .int (nI k)] σ (Ex (some (.int (if goT (Tq 10 σ) k = true then 1 else 0))) σ) := by
  refine Ct.of (by decide +kernel) zX2_wouldGo (Nat.le_of_ble_eq_true rfl) (by decide) (fun X go => ?_)
  refine go.1 [] 40 _ _ _ _ ?_
  refine Exists.intro k (And.intro ⟨rfl, hk, by omega⟩ ?_)
  refine And.intro (fun (h2 : Tq 10 σ 3 k = 2) => ?_) (fun (h2 : ¬ Tq 10 σ 3 k = 2) => ?_)
  · refine And.intro (by decide) ?_
    refine And.intro (fun (h : rm (Tq 10 σ 0 10) 2 = 0) => ?_) (fun (h : ¬ rm (Tq 10 σ 0 10) 2 = 0) => ?_)
    · refine And.intro (Or.inr rfl) (And.intro ?_ rfl)
      have e : goT (Tq 10 σ) k = true := by unfold goT; rw [if_pos h2]; exact decide_eq_true h
      rw [e]; rfl
    · refine And.intro (Or.inl rfl) (And.intro ?_ rfl)
      have e : goT (Tq 10 σ) k = false := by unfold goT; rw [if_pos h2]; exact decide_eq_false h
      rw [e]; rfl
  refine And.intro (fun (h4 : Tq 10 σ 3 k = 4) => ?_) (fun (h4 : ¬ Tq 10 σ 3 k = 4) => ?_)
  · refine And.intro (by decide) ?_
    refine And.intro (fun (h : rm (Tq 10 σ 0 10) 2 = 0) => ?_) (fun (h : ¬ rm (Tq 10 σ 0 10) 2 = 0) => ?_)
    · refine And.intro (by decide) ?_
      refine And.intro (fun (h3 : rm (Tq 10 σ 0 10) 3 = 0) => ?_) (fun (h3 : ¬ rm (Tq 10 σ 0 10) 3 = 0) => ?_)
      · refine And.intro (Or.inr rfl) (And.intro ?_ rfl)
        have e : goT (Tq 10 σ) k = true := by unfold goT; rw [if_neg h2, if_pos h4]; exact Bool.and_eq_true_iff.mpr ⟨decide_eq_true h, decide_eq_true h3⟩
        rw [e]; rfl
      · refine And.intro (Or.inl rfl) (And.intro ?_ rfl)
        have e : goT (Tq 10 σ) k = false := by unfold goT; rw [if_neg h2, if_pos h4]; exact Bool.and_eq_false_iff.mpr (Or.inr (decide_eq_false h3))
        rw [e]; rfl
    · refine And.intro (Or.inl rfl) (And.intro ?_ rfl)
      have e : goT (Tq 10 σ) k = false := by unfold goT; rw [if_neg h2, if_pos h4]; exact Bool.and_eq_false_iff.mpr (Or.inl (decide_eq_false h))
      rw [e]; rfl
  · refine And.intro (Or.inr rfl) (And.intro ?_ rfl)
    have e : goT (Tq 10 σ) k = true := by unfold goT; rw [if_neg h2, if_neg h4]
    rw [e]; rfl
theorem ct_sellAll_10 {n h : Nat} {T : Sg} (v : VT n h T) (σ : Sg) : Ct mX2_sellAll [.ref 10] (putSq 10 T σ) (Ex (some (.int (saleN T n))) (putSq 10 (sellN T n) σ)) := by
  have hn8 := v.1.1
  have hn := v.1.2.2.1
  refine Ct.of (by decide +kernel) zX2_sellAll (Nat.le_of_ble_eq_true rfl) (by decide) (fun X go => ?_)
  have L : ∀ d k, k + d = n → X 4 [(0, .ref 10), (1, .int (saleN T k)), (2, .int (nI k))] [] (putSq 10 (sellN T k) σ) := by
    intro d
    induction d with
    | zero =>
      intro k hk
      have hk : k = n := by omega
      subst hk
      refine go.1 [4] 20 _ _ _ _ ?_
      refine br_t (show sellN T k 0 9 ≤ nI k by rw [sellN_row (by decide) (by decide) (by decide), hn]; exact nI_le (Nat.le_refl _) (by omega)) ?_
      exact And.intro rfl rfl
    | succ d ih =>
      intro k hk
      have hk8 : k < 8 := by omega
      have e4 : sellN T k 4 k = nI (pl T k) := by rw [sellN_row (by decide) (by decide) (by decide)]; exact (VTpl v hk8).1
      have e4' : pl (sellN T k) k = pl T k := by unfold pl; rw [sellN_row (by decide) (by decide) (by decide)]
      obtain ⟨a, ha, ea⟩ := v.2.2.1 k hk8
      have ea : sellN T k 3 k = nI a := by rw [sellN_row (by decide) (by decide) (by decide)]; exact ea
      have eo : offT (Tq 10 (putSq 10 (sellN T k) σ)) (sellN T k 3 k) (pl T k) = offT (sellN T k) (sellN T k 3 k) (pl (sellN T k) k) := by rw [e4']; exact offT_cong rfl rfl rfl _ _
      have ep : pR a = priT (sellN T k 3 k) := by rw [ea]; unfold priT; rw [nI_clamp (by omega)]
      have co := ct_offerAt_10 (sellN T k 3 k) (VTpl v hk8).2 e4 (putSq 10 (sellN T k) σ)
      rw [eo] at co
      have cp := ct_priceOf_10 (σ := up2 (up2 (putSq 10 (sellN T k) σ) (10 + 5) k (sellN T k 5 k - selT (sellN T k) k)) (10 + 7) k (sellN T k 7 k + selT (sellN T k) k)) hk8 ha ea
      rw [ep] at cp
      have es : up2 (up2 (up2 (putSq 10 (sellN T k) σ) (10 + 5) k (sellN T k 5 k - selT (sellN T k) k)) (10 + 7) k (sellN T k 7 k + selT (sellN T k) k)) (10 + 6) k (sellN T k 6 k + selT (sellN T k) k * priT (sellN T k 3 k)) = putSq 10 (sellN T (k + 1)) σ := by
        show upr (upr (upr (putSq 10 (sellN T k) σ) (10 + 5) (upd (sellN T k 5) k _)) (10 + 7) (upd (sellN T k 7) k _)) (10 + 6) (upd (sellN T k 6) k _) = _
        rw [putSq_upr (by decide), putSq_upr (by decide), putSq_upr (by decide)]
        rfl
      have ihk := ih (k + 1) (by omega)
      rw [nI_succ, ← es] at ihk
      refine go.1 [4] 60 _ _ _ _ ?_
      refine br_f (show ¬ sellN T k 0 9 ≤ nI k by rw [sellN_row (by decide) (by decide) (by decide), hn]; exact nI_ge (by omega) (by omega)) ?_
      refine Exists.intro k (And.intro ⟨rfl, hk8, by omega⟩ ?_)
      refine Exists.intro k (And.intro ⟨rfl, hk8, by omega⟩ ?_)
      refine Exists.intro k (And.intro ⟨rfl, hk8, by omega⟩ ?_)
      refine cl co ?_
      refine Exists.intro k (And.intro ⟨rfl, hk8, by omega⟩ ?_)
      refine Exists.intro k (And.intro ⟨rfl, hk8, by omega⟩ ?_)
      refine Exists.intro k (And.intro ⟨rfl, hk8, by omega⟩ ?_)
      refine Exists.intro k (And.intro ⟨rfl, hk8, by omega⟩ ?_)
      refine Exists.intro k (And.intro ⟨rfl, hk8, by omega⟩ ?_)
      refine cl cp ?_
      refine Exists.intro k (And.intro ⟨rfl, hk8, by omega⟩ ?_)
      refine go.2 [0, 1, 2] _ _ _ _ ?_
      exact ihk
  exact go.1 [4] 20 _ _ _ _ (L n 0 (by omega))
